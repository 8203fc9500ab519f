section LV
variable {D : va_G} {ak : Nat → ClassId} {ad : Nat → Nat} {s : State} {H : Heap} {A : Nat → Prop} {U C V : va_W} {locs : List Loc}
theorem lc_preV {As : List Value} {Cn : String} {b : Nat} (hE : EV D ak s) (hT : ST D ak ad A s s.heap) (hP : va_P D vwCl (U ++ (C ++ V)) H) (hD : va_D A (U ++ (C ++ V))) (hS : va_S A s.heap H locs) (hA : ∀ q, s.heap.size ≤ q → A q) (q0 ci : Nat) {fs : List Value} {q : vw_C} (hc : vwCl[ci]? = some q) (hq : q.1 = Cn) (he : C[q0]? = some (b, .inr (ci, fs))) : PreV s H Cn b (cPre D ak ad (.ref b :: As) C H.size) As := by
  subst hq
  have h := lc_pre (As := .ref b :: As) hE hT hP hD hS hA
  exact ⟨h.1, va_recv hE.1 hP hc (lc_mid q0 _ he), h.2⟩
theorem IX.head {h7 : Nat} {v : VW} {L : va_W} (h : IX ak ad h7 v L) : ∃ xa : Nat → Nat, L[0]? = some (h7, .inr (6, wob xa)) := by
  obtain ⟨xa, ta, ra, ma, wa, ga, sa, la, gq, mk, ka, M, tr, bm, sf, sn, so, lp, lu, lt, lk, lr, PL, GA, rfl, _⟩ := h
  exact ⟨xa, rfl⟩
theorem IM.head {h : Nat} {v : VW} {L : va_W} (hI : IM ak h v L) : ∃ fs : List Value, L[0]? = some (h, .inr (7, fs)) := by
  obtain ⟨am, F, fw, A, b, rfl, _⟩ := hI
  exact ⟨_, rfl⟩
end LV
