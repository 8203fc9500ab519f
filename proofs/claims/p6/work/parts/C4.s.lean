theorem sp_E {x : Int32} {Φ : Int32 → Prop} (h : ∀ r, Φ r) : wp_X1_isEndless x Φ := sp_X1_isEndless (h 0) (h 1)
section SA
variable {e g l cl pg e2 g2 l2 cl2 kp : Nat} {hst htw kst ktw bm be to_ gc le gr ac tg fr mi en cd be2 to2 gc2 le2 gr2 ac2 tg2 fr2 mi2 en2 cd2 : Nat → Int32}
theorem sp_X7_comparable {Φ : Int32 → Prop} (hg : g ≤ 2) (hg2 : g2 ≤ 2) (h0 : Φ 0) (h1 : Φ 1) : wp_X7_comparable (nI g) (nI l) le gr (nI g2) (nI l2) le2 gr2 Φ := by
  unfold wp_X7_comparable
  exact ⟨fun _ => h0, fun _ => ⟨fun _ => h0, fun _ => sp_X2_inputCount hg (fun r => sp_X2_inputCount hg2 (fun r2 => ⟨fun _ => h0, fun _ => h1⟩))⟩⟩
theorem sp_X7_samex {x : Int32} {Φ : Int32 → Prop} (hx : x < 0 ∨ 4 ≤ x) (h : ∀ r, Φ r) : wp_X7_samex bm x Φ := by
  unfold wp_X7_samex
  exact sp_X7_within ⟨fun _ => h _, fun z => absurd rfl z⟩ (fun a b => absurd hx (fun z => z.elim a b))
theorem sp_X7_same0 {wp : Nat} {ww ws wn wa wb : Int32} {wst wtw wwo wce wke wsk : Nat → Int32} {gp : Nat} {gw gs gn ga gb : Int32} {gst gtw gwo gce gke gsk : Nat → Int32} {Φ : PW2} (hP : PJ e g l cl tg cd) (hP2 : PJ e2 g2 l2 cl2 tg2 cd2) (hs : AS hst) (hs2 : AS kst) (h : AW2 Φ) : wp_X7_same0 hst htw bm kst ktw (nI e) (nI g) (nI l) be to_ gc le gr ac tg fr mi en cd (nI e2) (nI g2) (nI l2) be2 to2 gc2 le2 gr2 ac2 tg2 fr2 mi2 en2 cd2 cl cl2 pg kp wp ww ws wn wa wb wst wtw wwo wce wke wsk gp gw gs gn ga gb gst gtw gwo gce gke gsk Φ := by
  unfold wp_X7_same0
  have o := h (-2) wp ww ws wn wa wb wst wtw wwo wce wke wsk gp gw gs gn ga gb gst gtw gwo gce gke gsk
  refine sp_X7_within ⟨fun _ => o, fun z => absurd rfl z⟩ (fun _ _ => ⟨fun _ => o, fun _ => ⟨fun _ => o, fun _ => sp_X7_comparable hP.2.1 hP2.2.1 ⟨fun z => absurd rfl z, fun _ => o⟩ ⟨fun _ => sp_X2_inputCount hP.2.1 (fun r => ⟨r.toNatClampNeg - 0 + 1, ?_⟩), fun _ => o⟩⟩⟩)
  have key : ∀ (m i : Nat) (wp : Nat) (ww ws wn wa wb : Int32) (wst wtw wwo wce wke wsk : Nat → Int32) (gp : Nat) (gw gs gn ga gb : Int32) (gst gtw gwo gce gke gsk : Nat → Int32), m = r.toNatClampNeg - i → i ≤ r.toNatClampNeg → lf_X7_same0_49 hst htw bm kst ktw (nI e) (nI g) (nI l) be to_ gc le gr ac tg fr mi en cd (nI e2) (nI g2) (nI l2) be2 to2 gc2 le2 gr2 ac2 tg2 fr2 mi2 en2 cd2 cl cl2 pg kp Φ (m + 1) wp ww ws wn wa wb wst wtw wwo wce wke wsk gp gw gs gn ga gb gst gtw gwo gce gke gsk r (nI i) := by
    have hr := cnt_lt r
    intro m
    induction m with
    | zero =>
      intro i wp ww ws wn wa wb wst wtw wwo wce wke wsk gp gw gs gn ga gb gst gtw gwo gce gke gsk hm hi
      show lb_X7_same0_49 _ _ _ _ _ _ _ _ _ _ _ _ _ _ _ _ _ _ _ _ _ _ _ _ _ _ _ _ _ _ _ _ _ _ _ _ _ _ _ _ _ _ _ _ _ _ _ _ _ _ _ _ _ _ _ _ _ _ _ _ _ _ _ _ _
      unfold lb_X7_same0_49
      exact ⟨fun _ => h _ _ _ _ _ _ _ _ _ _ _ _ _ _ _ _ _ _ _ _ _ _ _ _ _, fun z => absurd (cnt_le (by omega) (by omega)) z⟩
    | succ m ih =>
      intro i wp ww ws wn wa wb wst wtw wwo wce wke wsk gp gw gs gn ga gb gst gtw gwo gce gke gsk hm hi
      show lb_X7_same0_49 _ _ _ _ _ _ _ _ _ _ _ _ _ _ _ _ _ _ _ _ _ _ _ _ _ _ _ _ _ _ _ _ _ _ _ _ _ _ _ _ _ _ _ _ _ _ _ _ _ _ _ _ _ _ _ _ _ _ _ _ _ _ _ _ _
      unfold lb_X7_same0_49
      rw [nI_1]
      refine ⟨fun _ => h _ _ _ _ _ _ _ _ _ _ _ _ _ _ _ _ _ _ _ _ _ _ _ _ _, fun _ => sp_X7_walk hP (by decide) hs (fun _ _ _ _ _ _ _ _ _ _ => sp_X7_walk hP2 (by decide) hs2 (fun _ _ _ _ _ _ _ _ _ _ => ?_))⟩
      exact sp_E (fun a => sp_E (fun b => ⟨fun _ => h _ _ _ _ _ _ _ _ _ _ _ _ _ _ _ _ _ _ _ _ _ _ _ _ _, fun _ => sp_X1_wroteLike (by decide) ⟨fun z => absurd rfl z, fun _ => h _ _ _ _ _ _ _ _ _ _ _ _ _ _ _ _ _ _ _ _ _ _ _ _ _⟩ ⟨fun _ => ih (i + 1) _ _ _ _ _ _ _ _ _ _ _ _ _ _ _ _ _ _ _ _ _ _ _ _ (by omega) (by omega), fun z => absurd z (by decide)⟩⟩))
  exact key (r.toNatClampNeg - 0) 0 _ _ _ _ _ _ _ _ _ _ _ _ _ _ _ _ _ _ _ _ _ _ _ _ rfl (by omega)
theorem sp_X7_same1 {wp : Nat} {ww ws wn wa wb : Int32} {wst wtw wwo wce wke wsk : Nat → Int32} {gp : Nat} {gw gs gn ga gb : Int32} {gst gtw gwo gce gke gsk : Nat → Int32} {Φ : PW2} (hP : PJ e g l cl tg cd) (hP2 : PJ e2 g2 l2 cl2 tg2 cd2) (hs : AS hst) (hs2 : AS kst) (h : AW2 Φ) : wp_X7_same1 hst htw bm kst ktw (nI e) (nI g) (nI l) be to_ gc le gr ac tg fr mi en cd (nI e2) (nI g2) (nI l2) be2 to2 gc2 le2 gr2 ac2 tg2 fr2 mi2 en2 cd2 cl cl2 pg kp wp ww ws wn wa wb wst wtw wwo wce wke wsk gp gw gs gn ga gb gst gtw gwo gce gke gsk Φ := by
  unfold wp_X7_same1
  have o := h (-2) wp ww ws wn wa wb wst wtw wwo wce wke wsk gp gw gs gn ga gb gst gtw gwo gce gke gsk
  refine sp_X7_within ⟨fun _ => o, fun z => absurd rfl z⟩ (fun _ _ => ⟨fun _ => o, fun _ => ⟨fun _ => o, fun _ => sp_X7_comparable hP.2.1 hP2.2.1 ⟨fun z => absurd rfl z, fun _ => o⟩ ⟨fun _ => sp_X2_inputCount hP.2.1 (fun r => ⟨r.toNatClampNeg - 0 + 1, ?_⟩), fun _ => o⟩⟩⟩)
  have key : ∀ (m i : Nat) (wp : Nat) (ww ws wn wa wb : Int32) (wst wtw wwo wce wke wsk : Nat → Int32) (gp : Nat) (gw gs gn ga gb : Int32) (gst gtw gwo gce gke gsk : Nat → Int32), m = r.toNatClampNeg - i → i ≤ r.toNatClampNeg → lf_X7_same1_49 hst htw bm kst ktw (nI e) (nI g) (nI l) be to_ gc le gr ac tg fr mi en cd (nI e2) (nI g2) (nI l2) be2 to2 gc2 le2 gr2 ac2 tg2 fr2 mi2 en2 cd2 cl cl2 pg kp Φ (m + 1) wp ww ws wn wa wb wst wtw wwo wce wke wsk gp gw gs gn ga gb gst gtw gwo gce gke gsk r (nI i) := by
    have hr := cnt_lt r
    intro m
    induction m with
    | zero =>
      intro i wp ww ws wn wa wb wst wtw wwo wce wke wsk gp gw gs gn ga gb gst gtw gwo gce gke gsk hm hi
      show lb_X7_same1_49 _ _ _ _ _ _ _ _ _ _ _ _ _ _ _ _ _ _ _ _ _ _ _ _ _ _ _ _ _ _ _ _ _ _ _ _ _ _ _ _ _ _ _ _ _ _ _ _ _ _ _ _ _ _ _ _ _ _ _ _ _ _ _ _ _
      unfold lb_X7_same1_49
      exact ⟨fun _ => h _ _ _ _ _ _ _ _ _ _ _ _ _ _ _ _ _ _ _ _ _ _ _ _ _, fun z => absurd (cnt_le (by omega) (by omega)) z⟩
    | succ m ih =>
      intro i wp ww ws wn wa wb wst wtw wwo wce wke wsk gp gw gs gn ga gb gst gtw gwo gce gke gsk hm hi
      show lb_X7_same1_49 _ _ _ _ _ _ _ _ _ _ _ _ _ _ _ _ _ _ _ _ _ _ _ _ _ _ _ _ _ _ _ _ _ _ _ _ _ _ _ _ _ _ _ _ _ _ _ _ _ _ _ _ _ _ _ _ _ _ _ _ _ _ _ _ _
      unfold lb_X7_same1_49
      rw [nI_1]
      refine ⟨fun _ => h _ _ _ _ _ _ _ _ _ _ _ _ _ _ _ _ _ _ _ _ _ _ _ _ _, fun _ => sp_X7_walk hP (by decide) hs (fun _ _ _ _ _ _ _ _ _ _ => sp_X7_walk hP2 (by decide) hs2 (fun _ _ _ _ _ _ _ _ _ _ => ?_))⟩
      exact sp_E (fun a => sp_E (fun b => ⟨fun _ => h _ _ _ _ _ _ _ _ _ _ _ _ _ _ _ _ _ _ _ _ _ _ _ _ _, fun _ => sp_X1_wroteLike (by decide) ⟨fun z => absurd rfl z, fun _ => h _ _ _ _ _ _ _ _ _ _ _ _ _ _ _ _ _ _ _ _ _ _ _ _ _⟩ ⟨fun _ => ih (i + 1) _ _ _ _ _ _ _ _ _ _ _ _ _ _ _ _ _ _ _ _ _ _ _ _ (by omega) (by omega), fun z => absurd z (by decide)⟩⟩))
  exact key (r.toNatClampNeg - 0) 0 _ _ _ _ _ _ _ _ _ _ _ _ _ _ _ _ _ _ _ _ _ _ _ _ rfl (by omega)
theorem sp_X7_same2 {wp : Nat} {ww ws wn wa wb : Int32} {wst wtw wwo wce wke wsk : Nat → Int32} {gp : Nat} {gw gs gn ga gb : Int32} {gst gtw gwo gce gke gsk : Nat → Int32} {Φ : PW2} (hP : PJ e g l cl tg cd) (hP2 : PJ e2 g2 l2 cl2 tg2 cd2) (hs : AS hst) (hs2 : AS kst) (h : AW2 Φ) : wp_X7_same2 hst htw bm kst ktw (nI e) (nI g) (nI l) be to_ gc le gr ac tg fr mi en cd (nI e2) (nI g2) (nI l2) be2 to2 gc2 le2 gr2 ac2 tg2 fr2 mi2 en2 cd2 cl cl2 pg kp wp ww ws wn wa wb wst wtw wwo wce wke wsk gp gw gs gn ga gb gst gtw gwo gce gke gsk Φ := by
  unfold wp_X7_same2
  have o := h (-2) wp ww ws wn wa wb wst wtw wwo wce wke wsk gp gw gs gn ga gb gst gtw gwo gce gke gsk
  refine sp_X7_within ⟨fun _ => o, fun z => absurd rfl z⟩ (fun _ _ => ⟨fun _ => o, fun _ => ⟨fun _ => o, fun _ => sp_X7_comparable hP.2.1 hP2.2.1 ⟨fun z => absurd rfl z, fun _ => o⟩ ⟨fun _ => sp_X2_inputCount hP.2.1 (fun r => ⟨r.toNatClampNeg - 0 + 1, ?_⟩), fun _ => o⟩⟩⟩)
  have key : ∀ (m i : Nat) (wp : Nat) (ww ws wn wa wb : Int32) (wst wtw wwo wce wke wsk : Nat → Int32) (gp : Nat) (gw gs gn ga gb : Int32) (gst gtw gwo gce gke gsk : Nat → Int32), m = r.toNatClampNeg - i → i ≤ r.toNatClampNeg → lf_X7_same2_49 hst htw bm kst ktw (nI e) (nI g) (nI l) be to_ gc le gr ac tg fr mi en cd (nI e2) (nI g2) (nI l2) be2 to2 gc2 le2 gr2 ac2 tg2 fr2 mi2 en2 cd2 cl cl2 pg kp Φ (m + 1) wp ww ws wn wa wb wst wtw wwo wce wke wsk gp gw gs gn ga gb gst gtw gwo gce gke gsk r (nI i) := by
    have hr := cnt_lt r
    intro m
    induction m with
    | zero =>
      intro i wp ww ws wn wa wb wst wtw wwo wce wke wsk gp gw gs gn ga gb gst gtw gwo gce gke gsk hm hi
      show lb_X7_same2_49 _ _ _ _ _ _ _ _ _ _ _ _ _ _ _ _ _ _ _ _ _ _ _ _ _ _ _ _ _ _ _ _ _ _ _ _ _ _ _ _ _ _ _ _ _ _ _ _ _ _ _ _ _ _ _ _ _ _ _ _ _ _ _ _ _
      unfold lb_X7_same2_49
      exact ⟨fun _ => h _ _ _ _ _ _ _ _ _ _ _ _ _ _ _ _ _ _ _ _ _ _ _ _ _, fun z => absurd (cnt_le (by omega) (by omega)) z⟩
    | succ m ih =>
      intro i wp ww ws wn wa wb wst wtw wwo wce wke wsk gp gw gs gn ga gb gst gtw gwo gce gke gsk hm hi
      show lb_X7_same2_49 _ _ _ _ _ _ _ _ _ _ _ _ _ _ _ _ _ _ _ _ _ _ _ _ _ _ _ _ _ _ _ _ _ _ _ _ _ _ _ _ _ _ _ _ _ _ _ _ _ _ _ _ _ _ _ _ _ _ _ _ _ _ _ _ _
      unfold lb_X7_same2_49
      rw [nI_1]
      refine ⟨fun _ => h _ _ _ _ _ _ _ _ _ _ _ _ _ _ _ _ _ _ _ _ _ _ _ _ _, fun _ => sp_X7_walk hP (by decide) hs (fun _ _ _ _ _ _ _ _ _ _ => sp_X7_walk hP2 (by decide) hs2 (fun _ _ _ _ _ _ _ _ _ _ => ?_))⟩
      exact sp_E (fun a => sp_E (fun b => ⟨fun _ => h _ _ _ _ _ _ _ _ _ _ _ _ _ _ _ _ _ _ _ _ _ _ _ _ _, fun _ => sp_X1_wroteLike (by decide) ⟨fun z => absurd rfl z, fun _ => h _ _ _ _ _ _ _ _ _ _ _ _ _ _ _ _ _ _ _ _ _ _ _ _ _⟩ ⟨fun _ => ih (i + 1) _ _ _ _ _ _ _ _ _ _ _ _ _ _ _ _ _ _ _ _ _ _ _ _ (by omega) (by omega), fun z => absurd z (by decide)⟩⟩))
  exact key (r.toNatClampNeg - 0) 0 _ _ _ _ _ _ _ _ _ _ _ _ _ _ _ _ _ _ _ _ _ _ _ _ rfl (by omega)
theorem sp_X7_same3 {wp : Nat} {ww ws wn wa wb : Int32} {wst wtw wwo wce wke wsk : Nat → Int32} {gp : Nat} {gw gs gn ga gb : Int32} {gst gtw gwo gce gke gsk : Nat → Int32} {Φ : PW2} (hP : PJ e g l cl tg cd) (hP2 : PJ e2 g2 l2 cl2 tg2 cd2) (hs : AS hst) (hs2 : AS kst) (h : AW2 Φ) : wp_X7_same3 hst htw bm kst ktw (nI e) (nI g) (nI l) be to_ gc le gr ac tg fr mi en cd (nI e2) (nI g2) (nI l2) be2 to2 gc2 le2 gr2 ac2 tg2 fr2 mi2 en2 cd2 cl cl2 pg kp wp ww ws wn wa wb wst wtw wwo wce wke wsk gp gw gs gn ga gb gst gtw gwo gce gke gsk Φ := by
  unfold wp_X7_same3
  have o := h (-2) wp ww ws wn wa wb wst wtw wwo wce wke wsk gp gw gs gn ga gb gst gtw gwo gce gke gsk
  refine sp_X7_within ⟨fun _ => o, fun z => absurd rfl z⟩ (fun _ _ => ⟨fun _ => o, fun _ => ⟨fun _ => o, fun _ => sp_X7_comparable hP.2.1 hP2.2.1 ⟨fun z => absurd rfl z, fun _ => o⟩ ⟨fun _ => sp_X2_inputCount hP.2.1 (fun r => ⟨r.toNatClampNeg - 0 + 1, ?_⟩), fun _ => o⟩⟩⟩)
  have key : ∀ (m i : Nat) (wp : Nat) (ww ws wn wa wb : Int32) (wst wtw wwo wce wke wsk : Nat → Int32) (gp : Nat) (gw gs gn ga gb : Int32) (gst gtw gwo gce gke gsk : Nat → Int32), m = r.toNatClampNeg - i → i ≤ r.toNatClampNeg → lf_X7_same3_49 hst htw bm kst ktw (nI e) (nI g) (nI l) be to_ gc le gr ac tg fr mi en cd (nI e2) (nI g2) (nI l2) be2 to2 gc2 le2 gr2 ac2 tg2 fr2 mi2 en2 cd2 cl cl2 pg kp Φ (m + 1) wp ww ws wn wa wb wst wtw wwo wce wke wsk gp gw gs gn ga gb gst gtw gwo gce gke gsk r (nI i) := by
    have hr := cnt_lt r
    intro m
    induction m with
    | zero =>
      intro i wp ww ws wn wa wb wst wtw wwo wce wke wsk gp gw gs gn ga gb gst gtw gwo gce gke gsk hm hi
      show lb_X7_same3_49 _ _ _ _ _ _ _ _ _ _ _ _ _ _ _ _ _ _ _ _ _ _ _ _ _ _ _ _ _ _ _ _ _ _ _ _ _ _ _ _ _ _ _ _ _ _ _ _ _ _ _ _ _ _ _ _ _ _ _ _ _ _ _ _ _
      unfold lb_X7_same3_49
      exact ⟨fun _ => h _ _ _ _ _ _ _ _ _ _ _ _ _ _ _ _ _ _ _ _ _ _ _ _ _, fun z => absurd (cnt_le (by omega) (by omega)) z⟩
    | succ m ih =>
      intro i wp ww ws wn wa wb wst wtw wwo wce wke wsk gp gw gs gn ga gb gst gtw gwo gce gke gsk hm hi
      show lb_X7_same3_49 _ _ _ _ _ _ _ _ _ _ _ _ _ _ _ _ _ _ _ _ _ _ _ _ _ _ _ _ _ _ _ _ _ _ _ _ _ _ _ _ _ _ _ _ _ _ _ _ _ _ _ _ _ _ _ _ _ _ _ _ _ _ _ _ _
      unfold lb_X7_same3_49
      rw [nI_1]
      refine ⟨fun _ => h _ _ _ _ _ _ _ _ _ _ _ _ _ _ _ _ _ _ _ _ _ _ _ _ _, fun _ => sp_X7_walk hP (by decide) hs (fun _ _ _ _ _ _ _ _ _ _ => sp_X7_walk hP2 (by decide) hs2 (fun _ _ _ _ _ _ _ _ _ _ => ?_))⟩
      exact sp_E (fun a => sp_E (fun b => ⟨fun _ => h _ _ _ _ _ _ _ _ _ _ _ _ _ _ _ _ _ _ _ _ _ _ _ _ _, fun _ => sp_X1_wroteLike (by decide) ⟨fun z => absurd rfl z, fun _ => h _ _ _ _ _ _ _ _ _ _ _ _ _ _ _ _ _ _ _ _ _ _ _ _ _⟩ ⟨fun _ => ih (i + 1) _ _ _ _ _ _ _ _ _ _ _ _ _ _ _ _ _ _ _ _ _ _ _ _ (by omega) (by omega), fun z => absurd z (by decide)⟩⟩))
  exact key (r.toNatClampNeg - 0) 0 _ _ _ _ _ _ _ _ _ _ _ _ _ _ _ _ _ _ _ _ _ _ _ _ rfl (by omega)
end SA
section MR
variable {hp kp : Nat} {hw hs hn ha hb kw ks kn ka kb : Int32} {hst htw hwo hce hke kst ktw kwo kce kke bm : Nat → Int32}
abbrev PCmk : Type := Int32 → Nat → Int32 → Int32 → Int32 → Int32 → Int32 → (Nat → Int32) → (Nat → Int32) → (Nat → Int32) → (Nat → Int32) → (Nat → Int32) → (Nat → Int32) → Nat → Int32 → Int32 → Int32 → Int32 → Int32 → (Nat → Int32) → (Nat → Int32) → (Nat → Int32) → (Nat → Int32) → (Nat → Int32) → Prop
theorem sp_X7_markx {x y : Int32} {Φ : Int32 → Prop} (hx : x < 0 ∨ 4 ≤ x) (h : Φ 0) : wp_X7_markx bm x y Φ := by
  unfold wp_X7_markx
  exact sp_X7_within ⟨fun _ => h, fun z => absurd rfl z⟩ (fun a b => absurd hx (fun z => z.elim a b))
theorem sp_X7_mark0 {y : Int32} {Φ : PCmk} (hs1 : AS hst) (hs2 : AS kst)
    (h0 : ¬ y = 0 → bm 0 = 0 → Φ 0 hp hw hs hn ha hb hst htw hwo hce hke bm kp kw ks kn ka kb kst ktw kwo kce kke)
    (h1 : ∀ kst' ktw' kwo' kce' kke' : Nat → Int32, y = 0 → AS kst' → Φ 1 hp hw hs hn ha hb hst htw hwo hce hke (upd bm 0 (vp_nar .boolean 1)) hp hw hs hn ha hb kst' ktw' kwo' kce' kke')
    (h2 : ∀ hst' htw' hwo' hce' hke' : Nat → Int32, ¬ y = 0 → ¬ bm 0 = 0 → AS hst' → Φ 1 kp kw ks kn ka kb hst' htw' hwo' hce' hke' bm kp kw ks kn ka kb kst ktw kwo kce kke) : wp_X7_mark0 y hp hw hs hn ha hb hst htw hwo hce hke bm kp kw ks kn ka kb kst ktw kwo kce kke Φ := by
  unfold wp_X7_mark0
  refine ⟨fun z => absurd z (by decide), fun _ => ⟨fun z => absurd z (by decide), fun _ => ⟨fun z => absurd z (by decide), fun _ => ⟨fun ey => ?_, fun ey => ⟨fun eb => ?_, fun eb => h0 ey eb⟩⟩⟩⟩⟩
  · exact ⟨fun _ => sp_X1_copy hs1 (by decide) (by decide) (fun st' tw' wo' ce' ke' h => h1 _ _ _ _ _ ey h), fun z => absurd ey z⟩
  · exact ⟨fun z => absurd z ey, fun _ => sp_X1_copy hs2 (by decide) (by decide) (fun st' tw' wo' ce' ke' h => h2 _ _ _ _ _ ey eb h)⟩
theorem sp_X7_mark1 {y : Int32} {Φ : PCmk} (hs1 : AS hst) (hs2 : AS kst)
    (h0 : ¬ y = 0 → bm 1 = 0 → Φ 0 hp hw hs hn ha hb hst htw hwo hce hke bm kp kw ks kn ka kb kst ktw kwo kce kke)
    (h1 : ∀ kst' ktw' kwo' kce' kke' : Nat → Int32, y = 0 → AS kst' → Φ 1 hp hw hs hn ha hb hst htw hwo hce hke (upd bm 1 (vp_nar .boolean 1)) hp hw hs hn ha hb kst' ktw' kwo' kce' kke')
    (h2 : ∀ hst' htw' hwo' hce' hke' : Nat → Int32, ¬ y = 0 → ¬ bm 1 = 0 → AS hst' → Φ 1 kp kw ks kn ka kb hst' htw' hwo' hce' hke' bm kp kw ks kn ka kb kst ktw kwo kce kke) : wp_X7_mark1 y hp hw hs hn ha hb hst htw hwo hce hke bm kp kw ks kn ka kb kst ktw kwo kce kke Φ := by
  unfold wp_X7_mark1
  refine ⟨fun z => absurd z (by decide), fun _ => ⟨fun z => absurd z (by decide), fun _ => ⟨fun z => absurd z (by decide), fun _ => ⟨fun ey => ?_, fun ey => ⟨fun eb => ?_, fun eb => h0 ey eb⟩⟩⟩⟩⟩
  · exact ⟨fun _ => sp_X1_copy hs1 (by decide) (by decide) (fun st' tw' wo' ce' ke' h => h1 _ _ _ _ _ ey h), fun z => absurd ey z⟩
  · exact ⟨fun z => absurd z ey, fun _ => sp_X1_copy hs2 (by decide) (by decide) (fun st' tw' wo' ce' ke' h => h2 _ _ _ _ _ ey eb h)⟩
theorem sp_X7_mark2 {y : Int32} {Φ : PCmk} (hs1 : AS hst) (hs2 : AS kst)
    (h0 : ¬ y = 0 → bm 2 = 0 → Φ 0 hp hw hs hn ha hb hst htw hwo hce hke bm kp kw ks kn ka kb kst ktw kwo kce kke)
    (h1 : ∀ kst' ktw' kwo' kce' kke' : Nat → Int32, y = 0 → AS kst' → Φ 1 hp hw hs hn ha hb hst htw hwo hce hke (upd bm 2 (vp_nar .boolean 1)) hp hw hs hn ha hb kst' ktw' kwo' kce' kke')
    (h2 : ∀ hst' htw' hwo' hce' hke' : Nat → Int32, ¬ y = 0 → ¬ bm 2 = 0 → AS hst' → Φ 1 kp kw ks kn ka kb hst' htw' hwo' hce' hke' bm kp kw ks kn ka kb kst ktw kwo kce kke) : wp_X7_mark2 y hp hw hs hn ha hb hst htw hwo hce hke bm kp kw ks kn ka kb kst ktw kwo kce kke Φ := by
  unfold wp_X7_mark2
  refine ⟨fun z => absurd z (by decide), fun _ => ⟨fun z => absurd z (by decide), fun _ => ⟨fun z => absurd z (by decide), fun _ => ⟨fun ey => ?_, fun ey => ⟨fun eb => ?_, fun eb => h0 ey eb⟩⟩⟩⟩⟩
  · exact ⟨fun _ => sp_X1_copy hs1 (by decide) (by decide) (fun st' tw' wo' ce' ke' h => h1 _ _ _ _ _ ey h), fun z => absurd ey z⟩
  · exact ⟨fun z => absurd z ey, fun _ => sp_X1_copy hs2 (by decide) (by decide) (fun st' tw' wo' ce' ke' h => h2 _ _ _ _ _ ey eb h)⟩
theorem sp_X7_mark3 {y : Int32} {Φ : PCmk} (hs1 : AS hst) (hs2 : AS kst)
    (h0 : ¬ y = 0 → bm 3 = 0 → Φ 0 hp hw hs hn ha hb hst htw hwo hce hke bm kp kw ks kn ka kb kst ktw kwo kce kke)
    (h1 : ∀ kst' ktw' kwo' kce' kke' : Nat → Int32, y = 0 → AS kst' → Φ 1 hp hw hs hn ha hb hst htw hwo hce hke (upd bm 3 (vp_nar .boolean 1)) hp hw hs hn ha hb kst' ktw' kwo' kce' kke')
    (h2 : ∀ hst' htw' hwo' hce' hke' : Nat → Int32, ¬ y = 0 → ¬ bm 3 = 0 → AS hst' → Φ 1 kp kw ks kn ka kb hst' htw' hwo' hce' hke' bm kp kw ks kn ka kb kst ktw kwo kce kke) : wp_X7_mark3 y hp hw hs hn ha hb hst htw hwo hce hke bm kp kw ks kn ka kb kst ktw kwo kce kke Φ := by
  unfold wp_X7_mark3
  refine ⟨fun z => absurd z (by decide), fun _ => ⟨fun z => absurd z (by decide), fun _ => ⟨fun z => absurd z (by decide), fun _ => ⟨fun ey => ?_, fun ey => ⟨fun eb => ?_, fun eb => h0 ey eb⟩⟩⟩⟩⟩
  · exact ⟨fun _ => sp_X1_copy hs1 (by decide) (by decide) (fun st' tw' wo' ce' ke' h => h1 _ _ _ _ _ ey h), fun z => absurd ey z⟩
  · exact ⟨fun z => absurd z ey, fun _ => sp_X1_copy hs2 (by decide) (by decide) (fun st' tw' wo' ce' ke' h => h2 _ _ _ _ _ ey eb h)⟩
end MR
abbrev PCpr : Type := Int32 → Nat → Int32 → Int32 → Nat → Int32 → Int64 → Int32 → (Nat → Int64) → (Nat → Int64) → (Nat → Int32) → Int32 → Int32 → (Nat → Nat) → (Nat → Int32) → (Nat → Int64) → Int32 → Int32 → Int32 → Int32 → (Nat → Int32) → (Nat → Int32) → (Nat → Int32) → (Nat → Int32) → (Nat → Int32) → (Nat → Int32) → (Nat → Int32) → (Nat → Int32) → (Nat → Int32) → (Nat → Int32) → (Nat → Int32) → (Nat → Int32) → Nat → (Nat → Int32) → Nat → Int32 → Int32 → Int32 → Int32 → (Nat → Int32) → (Nat → Int32) → (Nat → Int32) → Prop
theorem sp_X7_programme {n tok hp : Nat} {sg code pl hst htw hwo : Nat → Int32} {a b p f C hs hn ha hb : Int32} {v : Int64} {sn cn vl : Nat → Int64} {tk : Nat → Nat} {Φ : PCpr} (hn1 : n ≤ 1000)
    (h : ∀ (r : Int32) (pg d t tok : Nat) (p : Int32) (v : Int64) (f : Int32) (sn cn : Nat → Int64) (code : Nat → Int32) (c : Nat) (tk : Nat → Nat) (pl : Nat → Int32) (vl : Nat → Int64) (s e g l : Nat) (be co to_ gc le gr ac so tg fr mi en cd : Nat → Int32), PK s e g l so tg d cd → Φ r pg (nI d) (nI t) tok p v f sn cn code 0 (nI c) tk pl vl (nI s) (nI e) (nI g) (nI l) be co to_ gc le gr ac so tg fr mi en d cd hp hs hn ha hb hst htw hwo ∧ ∀ st' tw' wo', AS st' → Φ r pg (nI d) (nI t) tok p v f sn cn code 0 (nI c) tk pl vl (nI s) (nI e) (nI g) (nI l) be co to_ gc le gr ac so tg fr mi en d cd pg 0 0 0 0 st' tw' wo') : wp_X7_programme sg a b tok p v f sn cn code (nI n) C tk pl vl hp hs hn ha hb hst htw hwo Φ := by
  unfold wp_X7_programme
  refine sp_X3_read hn1 (fun pg d t tok p v f sn cn code c tk pl vl s e g l be co to_ gc le gr ac so tg fr mi en cd hK => ⟨fun _ => (h _ _ _ _ _ _ _ _ _ _ _ _ _ _ _ _ _ _ _ _ _ _ _ _ _ _ _ _ _ _ _ _ hK).1, fun _ => ?_⟩)
  exact sp_X1_takeAsTold hK.2.2.2.2.1 (fun st' tw' wo' ha => (h _ _ _ _ _ _ _ _ _ _ _ _ _ _ _ _ _ _ _ _ _ _ _ _ _ _ _ _ _ _ _ _ hK).2 _ _ _ ha)
