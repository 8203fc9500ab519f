theorem dX1_wroteLike_15 : decode cX1_wroteLike 15 = .ok (.iload_n 2, 1) := by decide +kernel
theorem dX1_wroteLike_16 : decode cX1_wroteLike 16 = .ok (.aload_n 0, 1) := by decide +kernel
theorem dX1_wroteLike_17 : decode cX1_wroteLike 17 = .ok (.getfield 64, 3) := by decide +kernel
theorem dX1_wroteLike_20 : decode cX1_wroteLike 20 = .ok (.if_icmp .ge 44, 3) := by decide +kernel
theorem dX1_wroteLike_64 : decode cX1_wroteLike 64 = .ok (.iconst 1, 1) := by decide +kernel
theorem dX1_wroteLike_23 : decode cX1_wroteLike 23 = .ok (.iload_n 2, 1) := by decide +kernel
theorem dX1_wroteLike_24 : decode cX1_wroteLike 24 = .ok (.aload_n 0, 1) := by decide +kernel
theorem dX1_wroteLike_25 : decode cX1_wroteLike 25 = .ok (.getfield 38, 3) := by decide +kernel
theorem dX1_wroteLike_28 : decode cX1_wroteLike 28 = .ok (.arraylength, 1) := by decide +kernel
theorem dX1_wroteLike_29 : decode cX1_wroteLike 29 = .ok (.if_icmp .ge 35, 3) := by decide +kernel
theorem dX1_wroteLike_32 : decode cX1_wroteLike 32 = .ok (.iload_n 2, 1) := by decide +kernel
theorem dX1_wroteLike_33 : decode cX1_wroteLike 33 = .ok (.aload_n 1, 1) := by decide +kernel
theorem dX1_wroteLike_34 : decode cX1_wroteLike 34 = .ok (.getfield 38, 3) := by decide +kernel
theorem dX1_wroteLike_37 : decode cX1_wroteLike 37 = .ok (.arraylength, 1) := by decide +kernel
theorem dX1_wroteLike_38 : decode cX1_wroteLike 38 = .ok (.if_icmp .ge 26, 3) := by decide +kernel
theorem dX1_wroteLike_41 : decode cX1_wroteLike 41 = .ok (.aload_n 0, 1) := by decide +kernel
theorem dX1_wroteLike_42 : decode cX1_wroteLike 42 = .ok (.getfield 38, 3) := by decide +kernel
theorem dX1_wroteLike_45 : decode cX1_wroteLike 45 = .ok (.iload_n 2, 1) := by decide +kernel
theorem dX1_wroteLike_46 : decode cX1_wroteLike 46 = .ok (.iaload, 1) := by decide +kernel
theorem dX1_wroteLike_47 : decode cX1_wroteLike 47 = .ok (.aload_n 1, 1) := by decide +kernel
theorem dX1_wroteLike_48 : decode cX1_wroteLike 48 = .ok (.getfield 38, 3) := by decide +kernel
theorem dX1_wroteLike_51 : decode cX1_wroteLike 51 = .ok (.iload_n 2, 1) := by decide +kernel
theorem dX1_wroteLike_52 : decode cX1_wroteLike 52 = .ok (.iaload, 1) := by decide +kernel
theorem dX1_wroteLike_53 : decode cX1_wroteLike 53 = .ok (.if_icmp .eq 5, 3) := by decide +kernel
theorem dX1_wroteLike_58 : decode cX1_wroteLike 58 = .ok (.iinc 2 1, 3) := by decide +kernel
theorem dX1_wroteLike_61 : decode cX1_wroteLike 61 = .ok (.goto (-46), 3) := by decide +kernel
theorem dX1_wroteLike_56 : decode cX1_wroteLike 56 = .ok (.iconst 0, 1) := by decide +kernel
theorem dX1_wroteLike_0 : decode cX1_wroteLike 0 = .ok (.aload_n 0, 1) := by decide +kernel
theorem dX1_wroteLike_1 : decode cX1_wroteLike 1 = .ok (.getfield 64, 3) := by decide +kernel
theorem dX1_wroteLike_4 : decode cX1_wroteLike 4 = .ok (.aload_n 1, 1) := by decide +kernel
theorem dX1_wroteLike_5 : decode cX1_wroteLike 5 = .ok (.getfield 64, 3) := by decide +kernel
theorem dX1_wroteLike_8 : decode cX1_wroteLike 8 = .ok (.if_icmp .eq 5, 3) := by decide +kernel
theorem dX1_wroteLike_13 : decode cX1_wroteLike 13 = .ok (.iconst 0, 1) := by decide +kernel
theorem dX1_wroteLike_14 : decode cX1_wroteLike 14 = .ok (.istore_n 2, 1) := by decide +kernel
theorem dX1_wroteLike_11 : decode cX1_wroteLike 11 = .ok (.iconst 0, 1) := by decide +kernel
theorem dX1_wroteLike_12 : decode cX1_wroteLike 12 = .ok (.ireturn, 1) := by decide +kernel
theorem dX1_wroteLike_57 : decode cX1_wroteLike 57 = .ok (.ireturn, 1) := by decide +kernel
theorem dX1_wroteLike_65 : decode cX1_wroteLike 65 = .ok (.ireturn, 1) := by decide +kernel
theorem dX1_layLike_0 : decode cX1_layLike 0 = .ok (.aload_n 0, 1) := by decide +kernel
theorem dX1_layLike_1 : decode cX1_layLike 1 = .ok (.aload_n 1, 1) := by decide +kernel
theorem dX1_layLike_2 : decode cX1_layLike 2 = .ok (.getfield 34, 3) := by decide +kernel
theorem dX1_layLike_5 : decode cX1_layLike 5 = .ok (.putfield 34, 3) := by decide +kernel
theorem dX1_layLike_8 : decode cX1_layLike 8 = .ok (.aload_n 1, 1) := by decide +kernel
theorem dX1_layLike_9 : decode cX1_layLike 9 = .ok (.getfield 9, 3) := by decide +kernel
theorem dX1_layLike_12 : decode cX1_layLike 12 = .ok (.iconst 0, 1) := by decide +kernel
theorem dX1_layLike_13 : decode cX1_layLike 13 = .ok (.aload_n 0, 1) := by decide +kernel
theorem dX1_layLike_14 : decode cX1_layLike 14 = .ok (.getfield 9, 3) := by decide +kernel
theorem dX1_layLike_17 : decode cX1_layLike 17 = .ok (.iconst 0, 1) := by decide +kernel
theorem dX1_layLike_18 : decode cX1_layLike 18 = .ok (.bipush 16, 2) := by decide +kernel
theorem dX1_layLike_20 : decode cX1_layLike 20 = .ok (.invokestatic 46, 3) := by decide +kernel
theorem dX1_layLike_23 : decode cX1_layLike 23 = .ok (.aload_n 1, 1) := by decide +kernel
theorem dX1_layLike_24 : decode cX1_layLike 24 = .ok (.getfield 15, 3) := by decide +kernel
theorem dX1_layLike_27 : decode cX1_layLike 27 = .ok (.iconst 0, 1) := by decide +kernel
theorem dX1_layLike_28 : decode cX1_layLike 28 = .ok (.aload_n 0, 1) := by decide +kernel
theorem dX1_layLike_29 : decode cX1_layLike 29 = .ok (.getfield 15, 3) := by decide +kernel
theorem dX1_layLike_32 : decode cX1_layLike 32 = .ok (.iconst 0, 1) := by decide +kernel
theorem dX1_layLike_33 : decode cX1_layLike 33 = .ok (.bipush 16, 2) := by decide +kernel
theorem dX1_layLike_35 : decode cX1_layLike 35 = .ok (.invokestatic 46, 3) := by decide +kernel
theorem dX1_layLike_38 : decode cX1_layLike 38 = .ok (.aload_n 0, 1) := by decide +kernel
theorem dX1_layLike_39 : decode cX1_layLike 39 = .ok (.getfield 18, 3) := by decide +kernel
theorem dX1_layLike_42 : decode cX1_layLike 42 = .ok (.iconst 0, 1) := by decide +kernel
set_option maxRecDepth 20000 in
theorem ggX1_layLike_J7_fill_53178 : GoodIn wsX1_layLike wsJ7_fill_53178 := gup gc_J7_fill_53178
set_option maxRecDepth 20000 in
theorem gX1_layLike_J7_fill_53178 : GoodIn wsX1_layLike (va_wsS RX1 52 yJ7_fill_53178 wsJ7_fill_53178) := gup (glS hw_370 hw_371 hw_372 gc_J7_fill_53178)
theorem dX1_layLike_43 : decode cX1_layLike 43 = .ok (.invokestatic 52, 3) := by decide +kernel
theorem dX1_layLike_46 : decode cX1_layLike 46 = .ok (.return_, 1) := by decide +kernel
theorem dX1_copy_0 : decode cX1_copy 0 = .ok (.aload_n 0, 1) := by decide +kernel
theorem dX1_copy_1 : decode cX1_copy 1 = .ok (.aload_n 1, 1) := by decide +kernel
set_option maxRecDepth 20000 in
theorem ggX1_copy_X1_layLike : GoodIn wsX1_copy wsX1_layLike := gup gc_X1_layLike
set_option maxRecDepth 20000 in
theorem gX1_copy_X1_layLike : GoodIn wsX1_copy (wsV RX1 67 RX1 yX1_layLike wsX1_layLike) := gup (glV hw_373 hw_374 hw_375 hw_331 gc_X1_layLike)
theorem dX1_copy_2 : decode cX1_copy 2 = .ok (.invokevirtual 67, 3) := by decide +kernel
theorem dX1_copy_5 : decode cX1_copy 5 = .ok (.aload_n 1, 1) := by decide +kernel
theorem dX1_copy_6 : decode cX1_copy 6 = .ok (.getfield 18, 3) := by decide +kernel
theorem dX1_copy_9 : decode cX1_copy 9 = .ok (.iconst 0, 1) := by decide +kernel
theorem dX1_copy_10 : decode cX1_copy 10 = .ok (.aload_n 0, 1) := by decide +kernel
theorem dX1_copy_11 : decode cX1_copy 11 = .ok (.getfield 18, 3) := by decide +kernel
theorem dX1_copy_14 : decode cX1_copy 14 = .ok (.iconst 0, 1) := by decide +kernel
theorem dX1_copy_15 : decode cX1_copy 15 = .ok (.bipush 16, 2) := by decide +kernel
theorem dX1_copy_17 : decode cX1_copy 17 = .ok (.invokestatic 46, 3) := by decide +kernel
theorem dX1_copy_20 : decode cX1_copy 20 = .ok (.aload_n 1, 1) := by decide +kernel
theorem dX1_copy_21 : decode cX1_copy 21 = .ok (.getfield 21, 3) := by decide +kernel
theorem dX1_copy_24 : decode cX1_copy 24 = .ok (.iconst 0, 1) := by decide +kernel
theorem dX1_copy_25 : decode cX1_copy 25 = .ok (.aload_n 0, 1) := by decide +kernel
theorem dX1_copy_26 : decode cX1_copy 26 = .ok (.getfield 21, 3) := by decide +kernel
theorem dX1_copy_29 : decode cX1_copy 29 = .ok (.iconst 0, 1) := by decide +kernel
theorem dX1_copy_30 : decode cX1_copy 30 = .ok (.bipush 6, 2) := by decide +kernel
theorem dX1_copy_32 : decode cX1_copy 32 = .ok (.invokestatic 46, 3) := by decide +kernel
theorem dX1_copy_35 : decode cX1_copy 35 = .ok (.aload_n 1, 1) := by decide +kernel
theorem dX1_copy_36 : decode cX1_copy 36 = .ok (.getfield 38, 3) := by decide +kernel
theorem dX1_copy_39 : decode cX1_copy 39 = .ok (.iconst 0, 1) := by decide +kernel
theorem dX1_copy_40 : decode cX1_copy 40 = .ok (.aload_n 0, 1) := by decide +kernel
theorem dX1_copy_41 : decode cX1_copy 41 = .ok (.getfield 38, 3) := by decide +kernel
theorem dX1_copy_44 : decode cX1_copy 44 = .ok (.iconst 0, 1) := by decide +kernel
theorem dX1_copy_45 : decode cX1_copy 45 = .ok (.aload_n 1, 1) := by decide +kernel
theorem dX1_copy_46 : decode cX1_copy 46 = .ok (.getfield 38, 3) := by decide +kernel
theorem dX1_copy_49 : decode cX1_copy 49 = .ok (.arraylength, 1) := by decide +kernel
theorem dX1_copy_50 : decode cX1_copy 50 = .ok (.aload_n 0, 1) := by decide +kernel
theorem dX1_copy_51 : decode cX1_copy 51 = .ok (.getfield 38, 3) := by decide +kernel
theorem dX1_copy_54 : decode cX1_copy 54 = .ok (.arraylength, 1) := by decide +kernel
theorem dX1_copy_55 : decode cX1_copy 55 = .ok (.invokestatic 71, 3) := by decide +kernel
theorem dX1_copy_58 : decode cX1_copy 58 = .ok (.invokestatic 46, 3) := by decide +kernel
theorem dX1_copy_61 : decode cX1_copy 61 = .ok (.aload_n 0, 1) := by decide +kernel
theorem dX1_copy_62 : decode cX1_copy 62 = .ok (.aload_n 1, 1) := by decide +kernel
theorem dX1_copy_63 : decode cX1_copy 63 = .ok (.getfield 27, 3) := by decide +kernel
theorem dX1_copy_66 : decode cX1_copy 66 = .ok (.putfield 27, 3) := by decide +kernel
theorem dX1_copy_69 : decode cX1_copy 69 = .ok (.aload_n 0, 1) := by decide +kernel
theorem dX1_copy_70 : decode cX1_copy 70 = .ok (.aload_n 1, 1) := by decide +kernel
theorem dX1_copy_71 : decode cX1_copy 71 = .ok (.getfield 31, 3) := by decide +kernel
theorem dX1_copy_74 : decode cX1_copy 74 = .ok (.putfield 31, 3) := by decide +kernel
theorem dX1_copy_77 : decode cX1_copy 77 = .ok (.aload_n 0, 1) := by decide +kernel
theorem dX1_copy_78 : decode cX1_copy 78 = .ok (.aload_n 1, 1) := by decide +kernel
theorem dX1_copy_79 : decode cX1_copy 79 = .ok (.getfield 58, 3) := by decide +kernel
theorem dX1_copy_82 : decode cX1_copy 82 = .ok (.putfield 58, 3) := by decide +kernel
theorem dX1_copy_85 : decode cX1_copy 85 = .ok (.aload_n 0, 1) := by decide +kernel
theorem dX1_copy_86 : decode cX1_copy 86 = .ok (.aload_n 1, 1) := by decide +kernel
theorem dX1_copy_87 : decode cX1_copy 87 = .ok (.getfield 61, 3) := by decide +kernel
theorem dX1_copy_90 : decode cX1_copy 90 = .ok (.putfield 61, 3) := by decide +kernel
theorem dX1_copy_93 : decode cX1_copy 93 = .ok (.aload_n 0, 1) := by decide +kernel
theorem dX1_copy_94 : decode cX1_copy 94 = .ok (.aload_n 1, 1) := by decide +kernel
theorem dX1_copy_95 : decode cX1_copy 95 = .ok (.getfield 64, 3) := by decide +kernel
theorem dX1_copy_98 : decode cX1_copy 98 = .ok (.putfield 64, 3) := by decide +kernel
theorem dX1_copy_101 : decode cX1_copy 101 = .ok (.return_, 1) := by decide +kernel
theorem dX1_takeAsTold_0 : decode cX1_takeAsTold 0 = .ok (.aload_n 0, 1) := by decide +kernel
theorem dX1_takeAsTold_1 : decode cX1_takeAsTold 1 = .ok (.aload_n 1, 1) := by decide +kernel
theorem dX1_takeAsTold_2 : decode cX1_takeAsTold 2 = .ok (.putfield 34, 3) := by decide +kernel
theorem dX1_takeAsTold_5 : decode cX1_takeAsTold 5 = .ok (.aload_n 1, 1) := by decide +kernel
theorem dX1_takeAsTold_6 : decode cX1_takeAsTold 6 = .ok (.getfield 41, 3) := by decide +kernel
theorem dX1_takeAsTold_9 : decode cX1_takeAsTold 9 = .ok (.iconst 0, 1) := by decide +kernel
theorem dX1_takeAsTold_10 : decode cX1_takeAsTold 10 = .ok (.aload_n 0, 1) := by decide +kernel
theorem dX1_takeAsTold_11 : decode cX1_takeAsTold 11 = .ok (.getfield 9, 3) := by decide +kernel
theorem dX1_takeAsTold_14 : decode cX1_takeAsTold 14 = .ok (.iconst 0, 1) := by decide +kernel
theorem dX1_takeAsTold_15 : decode cX1_takeAsTold 15 = .ok (.bipush 16, 2) := by decide +kernel
theorem dX1_takeAsTold_17 : decode cX1_takeAsTold 17 = .ok (.invokestatic 46, 3) := by decide +kernel
theorem dX1_takeAsTold_20 : decode cX1_takeAsTold 20 = .ok (.aload_n 0, 1) := by decide +kernel
theorem dX1_takeAsTold_21 : decode cX1_takeAsTold 21 = .ok (.getfield 15, 3) := by decide +kernel
theorem dX1_takeAsTold_24 : decode cX1_takeAsTold 24 = .ok (.iconst 1, 1) := by decide +kernel
set_option maxRecDepth 20000 in
theorem ggX1_takeAsTold_J7_fill_53178 : GoodIn wsX1_takeAsTold wsJ7_fill_53178 := gup gc_J7_fill_53178
set_option maxRecDepth 20000 in
theorem gX1_takeAsTold_J7_fill_53178 : GoodIn wsX1_takeAsTold (va_wsS RX1 52 yJ7_fill_53178 wsJ7_fill_53178) := gup (glS hw_370 hw_371 hw_372 gc_J7_fill_53178)
theorem dX1_takeAsTold_25 : decode cX1_takeAsTold 25 = .ok (.invokestatic 52, 3) := by decide +kernel
theorem dX1_takeAsTold_28 : decode cX1_takeAsTold 28 = .ok (.aload_n 0, 1) := by decide +kernel
theorem dX1_takeAsTold_29 : decode cX1_takeAsTold 29 = .ok (.getfield 18, 3) := by decide +kernel
theorem dX1_takeAsTold_32 : decode cX1_takeAsTold 32 = .ok (.iconst 0, 1) := by decide +kernel
theorem dX1_takeAsTold_33 : decode cX1_takeAsTold 33 = .ok (.invokestatic 52, 3) := by decide +kernel
theorem dX1_takeAsTold_36 : decode cX1_takeAsTold 36 = .ok (.aload_n 0, 1) := by decide +kernel
theorem dX1_takeAsTold_37 : decode cX1_takeAsTold 37 = .ok (.iconst 0, 1) := by decide +kernel
theorem dX1_takeAsTold_38 : decode cX1_takeAsTold 38 = .ok (.putfield 31, 3) := by decide +kernel
theorem dX1_takeAsTold_41 : decode cX1_takeAsTold 41 = .ok (.aload_n 0, 1) := by decide +kernel
theorem dX1_takeAsTold_42 : decode cX1_takeAsTold 42 = .ok (.iconst 0, 1) := by decide +kernel
theorem dX1_takeAsTold_43 : decode cX1_takeAsTold 43 = .ok (.putfield 58, 3) := by decide +kernel
theorem dX1_takeAsTold_46 : decode cX1_takeAsTold 46 = .ok (.aload_n 0, 1) := by decide +kernel
theorem dX1_takeAsTold_47 : decode cX1_takeAsTold 47 = .ok (.iconst 0, 1) := by decide +kernel
theorem dX1_takeAsTold_48 : decode cX1_takeAsTold 48 = .ok (.putfield 61, 3) := by decide +kernel
theorem dX1_takeAsTold_51 : decode cX1_takeAsTold 51 = .ok (.aload_n 0, 1) := by decide +kernel
theorem dX1_takeAsTold_52 : decode cX1_takeAsTold 52 = .ok (.iconst 0, 1) := by decide +kernel
theorem dX1_takeAsTold_53 : decode cX1_takeAsTold 53 = .ok (.putfield 64, 3) := by decide +kernel
theorem dX1_takeAsTold_56 : decode cX1_takeAsTold 56 = .ok (.return_, 1) := by decide +kernel
def wW_X1_wroteLike (ak : Nat → ClassId) (ad : Nat → Nat) (h : Nat) (mm : Nat → Nat) (ho : Nat) (mo : Nat → Nat) (kn : Nat) (ko : Nat) (Mpg : Nat) (Mway : Int32) (Mstate : Int32) (Mnext : Int32) (Msteps : Int32) (Mwritten : Int32) (Mkept : Nat → Int32) (Opg : Nat) (Oway : Int32) (Ostate : Int32) (Onext : Int32) (Osteps : Int32) (Owritten : Int32) (Okept : Nat → Int32) : va_W := [(h, .inr (1, xob mm (Mpg) (Mway) (Mstate) (Mnext) (Msteps) (Mwritten))), ((mm 4), .inl (ak 0, kn, .inl (Mkept))), (ho, .inr (1, xob mo (Opg) (Oway) (Ostate) (Onext) (Osteps) (Owritten))), ((mo 4), .inl (ak 0, ko, .inl (Okept)))]
def lb_X1_wroteLike_15 (Mwritten : Int32) (Mkept : Nat → Int32) (Owritten : Int32) (Okept : Nat → Int32) (kn : Nat) (ko : Nat)  (Φ : Int32 → Prop) (back : Int32 → Prop) (l2 : Int32) : Prop := (Mwritten ≤ l2 → Φ 1 ) ∧ (¬ Mwritten ≤ l2 → ((nI kn) ≤ l2 → Φ 1 ) ∧ (¬ (nI kn) ≤ l2 → ((nI ko) ≤ l2 → Φ 1 ) ∧ (¬ (nI ko) ≤ l2 → vp_in l2 kn ∧ vp_in l2 ko ∧ ((Mkept (l2).toNatClampNeg) = (Okept (l2).toNatClampNeg) → back (l2 + 1)) ∧ (¬ (Mkept (l2).toNatClampNeg) = (Okept (l2).toNatClampNeg) → Φ 0 ))))
def lf_X1_wroteLike_15 (Mwritten : Int32) (Mkept : Nat → Int32) (Owritten : Int32) (Okept : Nat → Int32) (kn : Nat) (ko : Nat)  (Φ : Int32 → Prop) : Nat → Int32 → Prop
  | 0, _ => False
  | n_ + 1, l2 => lb_X1_wroteLike_15 Mwritten Mkept Owritten Okept kn ko  Φ (lf_X1_wroteLike_15 Mwritten Mkept Owritten Okept kn ko  Φ n_) l2
theorem li_X1_wroteLike_15 (Mwritten : Int32) (Mkept : Nat → Int32) (Owritten : Int32) (Okept : Nat → Int32) (kn : Nat) (ko : Nat)  (Φ : Int32 → Prop) (Inv : Int32 → Prop) (mu : Int32 → Nat) (hs : ∀ (back : Int32 → Prop) (l2 : Int32), Inv l2 → (∀ (l2' : Int32), Inv l2' → mu l2' < mu l2 → back l2') → lb_X1_wroteLike_15 Mwritten Mkept Owritten Okept kn ko  Φ back l2) : ∀ (n_ : Nat) (l2 : Int32), Inv l2 → mu l2 < n_ → lf_X1_wroteLike_15 Mwritten Mkept Owritten Okept kn ko  Φ n_ l2 := by
  intro n_
  induction n_ with
  | zero => intro l2 _ h; exact absurd h (Nat.not_lt_zero _)
  | succ n_ ih => intro l2 hI hm; exact hs _ l2 hI (fun l2' h1 h2 => ih l2' h1 (by omega))
set_option maxHeartbeats 4000000 in
set_option maxRecDepth 100000 in
theorem lp_X1_wroteLike_15 {p : Program} {l : Launch} {e : Env} {R : Room} {s : State} {m : MethodId} {args : Array Value} {below : List Frame} {meth : Method} {c : Code} {cells slots : Nat} {Q : State → Prop} {A : Nat → Prop} {D : va_G} {ak : Nat → ClassId} {ad : Nat → Nat} (hx : p.tables.exec = Jvm.exec) (hb : c.code = cX1_wroteLike) (hown : s.vm.findClass RX1 = some m.cls) (hts : ∀ w ∈ wsX1_wroteLike, w.before args s = true) (hml : c.maxLocals = 3) (hE : EV D ak s) (hT : ST D ak ad A s s.heap) (hA : ∀ q, s.heap.size ≤ q → A q) (h : Nat) (mm : Nat → Nat) (ho : Nat) (mo : Nat → Nat) (kn : Nat) (ko : Nat) (Mpg : Nat) (Mway : Int32) (Mstate : Int32) (Mnext : Int32) (Msteps : Int32) (Mwritten : Int32) (Mkept : Nat → Int32) (Opg : Nat) (Oway : Int32) (Ostate : Int32) (Onext : Int32) (Osteps : Int32) (Owritten : Int32) (Okept : Nat → Int32)  (Φ : Int32 → Prop)
    (kR12 : ∀ (r : Int32)  (H : Heap) (locs : List Loc) (ls : Array Slot), (r = 0 ∨ r = 1) → Φ r  → va_P D vwCl (wW_X1_wroteLike ak ad h mm ho mo kn ko Mpg Mway Mstate Mnext Msteps Mwritten Mkept Opg Oway Ostate Onext Osteps Owritten Okept) H → va_D A (wW_X1_wroteLike ak ad h mm ho mo kn ko Mpg Mway Mstate Mnext Msteps Mwritten Mkept Opg Oway Ostate Onext Osteps Owritten Okept) → va_S A s.heap H locs → W p l e R s m args below meth c H locs cells slots Q (F0 m 12 ls [.int r]))
    (kR57 : ∀ (r : Int32)  (H : Heap) (locs : List Loc) (ls : Array Slot), (r = 0 ∨ r = 1) → Φ r  → va_P D vwCl (wW_X1_wroteLike ak ad h mm ho mo kn ko Mpg Mway Mstate Mnext Msteps Mwritten Mkept Opg Oway Ostate Onext Osteps Owritten Okept) H → va_D A (wW_X1_wroteLike ak ad h mm ho mo kn ko Mpg Mway Mstate Mnext Msteps Mwritten Mkept Opg Oway Ostate Onext Osteps Owritten Okept) → va_S A s.heap H locs → W p l e R s m args below meth c H locs cells slots Q (F0 m 57 ls [.int r]))
    (kR65 : ∀ (r : Int32)  (H : Heap) (locs : List Loc) (ls : Array Slot), (r = 0 ∨ r = 1) → Φ r  → va_P D vwCl (wW_X1_wroteLike ak ad h mm ho mo kn ko Mpg Mway Mstate Mnext Msteps Mwritten Mkept Opg Oway Ostate Onext Osteps Owritten Okept) H → va_D A (wW_X1_wroteLike ak ad h mm ho mo kn ko Mpg Mway Mstate Mnext Msteps Mwritten Mkept Opg Oway Ostate Onext Osteps Owritten Okept) → va_S A s.heap H locs → W p l e R s m args below meth c H locs cells slots Q (F0 m 65 ls [.int r]))
    : ∀ (n_ : Nat) (l2 : Int32) (H : Heap) (locs : List Loc) (ls : Array Slot), lf_X1_wroteLike_15 Mwritten Mkept Owritten Okept kn ko  Φ n_ l2 → va_P D vwCl (wW_X1_wroteLike ak ad h mm ho mo kn ko Mpg Mway Mstate Mnext Msteps Mwritten Mkept Opg Oway Ostate Onext Osteps Owritten Okept) H → va_D A (wW_X1_wroteLike ak ad h mm ho mo kn ko Mpg Mway Mstate Mnext Msteps Mwritten Mkept Opg Oway Ostate Onext Osteps Owritten Okept) → va_S A s.heap H locs → lv_has ls 3 [(0, .ref h), (1, .ref ho), (2, .int (l2))] → W p l e R s m args below meth c H locs cells slots Q (F0 m 15 ls ([])) := by
  intro n_
  induction n_ with
  | zero =>
    intro l2 H locs ls hw
    exact hw.elim
  | succ n_ ih =>
    intro l2 H locs ls hw hP hD hS hl
    have hw : lb_X1_wroteLike_15 Mwritten Mkept Owritten Okept kn ko  Φ (lf_X1_wroteLike_15 Mwritten Mkept Owritten Okept kn ko  Φ n_) l2 := hw
    delta lb_X1_wroteLike_15 at hw
    refine lv_iload_n hx hb dX1_wroteLike_15 rfl (lv_at hl 2 rfl) ?_
    refine lv_aload_n hx hb dX1_wroteLike_16 rfl (lv_at hl 0 rfl) ?_
    refine va_get (D := D) (ci := 1) (v := .int (Mwritten)) (C := RX1) (T := TX1) (N := 12) hx hb hts (fun w h => wm_c (wc_X1 w h)) hown hE.1 hP 0 rfl rfl 11 (by decide) (hts (.fieldLink RX1 64 "WornLines$Machine" "written" "I") (wm_c hw_320)) (fun _ h9 => h9) rfl dX1_wroteLike_17 ?_
    refine lv_icmp_ge (tgt := 64) hx hb dX1_wroteLike_20 (by decide) (fun c_2 => ?_) (fun c_2 => ?_)
    · replace hw := hw.1 c_2
      refine lv_iconst (v := 1) hx hb dX1_wroteLike_64 (by decide) ?_
      exact kR65 1  _ _ _ (Or.inr rfl) hw hP hD hS
    · replace hw := hw.2 c_2
      refine lv_iload_n hx hb dX1_wroteLike_23 rfl (lv_at hl 2 rfl) ?_
      refine lv_aload_n hx hb dX1_wroteLike_24 rfl (lv_at hl 0 rfl) ?_
      refine vt_get (D := D) (ci := 1) (v := .ref (mm 4)) (C := RX1) (T := TX1) (N := 12) hx hb hts (fun w h => wm_c (wc_X1 w h)) hown hE.1 hP 0 rfl rfl 5 (by decide) tX1_5 (hts (.fieldLink RX1 38 "WornLines$Machine" "kept" "[I") (wm_c hw_302)) (fun _ h9 => h9) rfl dX1_wroteLike_25 ?_
      refine va_alen hx hb hE.1 hP 1 0 rfl rfl (v := nI kn) rfl dX1_wroteLike_28 ?_
      refine lv_icmp_ge (tgt := 64) hx hb dX1_wroteLike_29 (by decide) (fun c_3 => ?_) (fun c_3 => ?_)
      · replace hw := hw.1 c_3
        refine lv_iconst (v := 1) hx hb dX1_wroteLike_64 (by decide) ?_
        exact kR65 1  _ _ _ (Or.inr rfl) hw hP hD hS
      · replace hw := hw.2 c_3
        refine lv_iload_n hx hb dX1_wroteLike_32 rfl (lv_at hl 2 rfl) ?_
        refine lv_aload_n hx hb dX1_wroteLike_33 rfl (lv_at hl 1 rfl) ?_
        refine vt_get (D := D) (ci := 1) (v := .ref (mo 4)) (C := RX1) (T := TX1) (N := 12) hx hb hts (fun w h => wm_c (wc_X1 w h)) hown hE.1 hP 2 rfl rfl 5 (by decide) tX1_5 (hts (.fieldLink RX1 38 "WornLines$Machine" "kept" "[I") (wm_c hw_302)) (fun _ h9 => h9) rfl dX1_wroteLike_34 ?_
        refine va_alen hx hb hE.1 hP 3 0 rfl rfl (v := nI ko) rfl dX1_wroteLike_37 ?_
        refine lv_icmp_ge (tgt := 64) hx hb dX1_wroteLike_38 (by decide) (fun c_4 => ?_) (fun c_4 => ?_)
        · replace hw := hw.1 c_4
          refine lv_iconst (v := 1) hx hb dX1_wroteLike_64 (by decide) ?_
          exact kR65 1  _ _ _ (Or.inr rfl) hw hP hD hS
        · replace hw := hw.2 c_4
          refine lv_aload_n hx hb dX1_wroteLike_41 rfl (lv_at hl 0 rfl) ?_
          refine vt_get (D := D) (ci := 1) (v := .ref (mm 4)) (C := RX1) (T := TX1) (N := 12) hx hb hts (fun w h => wm_c (wc_X1 w h)) hown hE.1 hP 0 rfl rfl 5 (by decide) tX1_5 (hts (.fieldLink RX1 38 "WornLines$Machine" "kept" "[I") (wm_c hw_302)) (fun _ h9 => h9) rfl dX1_wroteLike_42 ?_
          refine lv_iload_n hx hb dX1_wroteLike_45 rfl (lv_at hl 2 rfl) ?_
          obtain ⟨h_5, hw⟩ := hw
          refine va_iald hx hb hE.1 hP 1 0 rfl rfl (h_5) dX1_wroteLike_46 ?_
          refine lv_aload_n hx hb dX1_wroteLike_47 rfl (lv_at hl 1 rfl) ?_
          refine vt_get (D := D) (ci := 1) (v := .ref (mo 4)) (C := RX1) (T := TX1) (N := 12) hx hb hts (fun w h => wm_c (wc_X1 w h)) hown hE.1 hP 2 rfl rfl 5 (by decide) tX1_5 (hts (.fieldLink RX1 38 "WornLines$Machine" "kept" "[I") (wm_c hw_302)) (fun _ h9 => h9) rfl dX1_wroteLike_48 ?_
          refine lv_iload_n hx hb dX1_wroteLike_51 rfl (lv_at hl 2 rfl) ?_
          obtain ⟨h_6, hw⟩ := hw
          refine va_iald hx hb hE.1 hP 3 0 rfl rfl (h_6) dX1_wroteLike_52 ?_
          refine lv_icmp_eq (tgt := 58) hx hb dX1_wroteLike_53 (by decide) (fun c_7 => ?_) (fun c_7 => ?_)
          · replace hw := hw.1 c_7
            refine lv_iinc (v := (l2 + 1)) (lv' := [(2, .int (l2 + 1)), (0, .ref h), (1, .ref ho)]) hx hb dX1_wroteLike_58 hl (k := 2) rfl (rfl) (by decide) rfl (fun ls hl => ?_)
            refine lv_goto (tgt := 15) hx hb dX1_wroteLike_61 (by decide) ?_
            exact ih (l2 + 1) _ _ _ hw hP hD hS (lv_sub hl [1, 2, 0] rfl)
          · replace hw := hw.2 c_7
            refine lv_iconst (v := 0) hx hb dX1_wroteLike_56 (by decide) ?_
            exact kR57 0  _ _ _ (Or.inl rfl) hw hP hD hS

def wp_X1_wroteLike (Mwritten : Int32) (Mkept : Nat → Int32) (Owritten : Int32) (Okept : Nat → Int32) (kn : Nat) (ko : Nat)  (Φ : Int32 → Prop) : Prop := (Mwritten = Owritten → (∃ n_, lf_X1_wroteLike_15 Mwritten Mkept Owritten Okept kn ko  Φ n_ 0)) ∧ (¬ Mwritten = Owritten → Φ 0 )
set_option maxHeartbeats 4000000 in
set_option maxRecDepth 100000 in
theorem kj_X1_wroteLike_e {p : Program} {l : Launch} {e : Env} {R : Room} {s : State} {m : MethodId} {args : Array Value} {below : List Frame} {meth : Method} {c : Code} {cells slots : Nat} {Q : State → Prop} {A : Nat → Prop} {D : va_G} {ak : Nat → ClassId} {ad : Nat → Nat} (hx : p.tables.exec = Jvm.exec) (hb : c.code = cX1_wroteLike) (hown : s.vm.findClass RX1 = some m.cls) (hts : ∀ w ∈ wsX1_wroteLike, w.before args s = true) (hml : c.maxLocals = 3) (hE : EV D ak s) (hT : ST D ak ad A s s.heap) (hA : ∀ q, s.heap.size ≤ q → A q) (h : Nat) (mm : Nat → Nat) (ho : Nat) (mo : Nat → Nat) (kn : Nat) (ko : Nat) (Mpg : Nat) (Mway : Int32) (Mstate : Int32) (Mnext : Int32) (Msteps : Int32) (Mwritten : Int32) (Mkept : Nat → Int32) (Opg : Nat) (Oway : Int32) (Ostate : Int32) (Onext : Int32) (Osteps : Int32) (Owritten : Int32) (Okept : Nat → Int32)  (Φ : Int32 → Prop)
    (kR12 : ∀ (r : Int32)  (H : Heap) (locs : List Loc) (ls : Array Slot), (r = 0 ∨ r = 1) → Φ r  → va_P D vwCl (wW_X1_wroteLike ak ad h mm ho mo kn ko Mpg Mway Mstate Mnext Msteps Mwritten Mkept Opg Oway Ostate Onext Osteps Owritten Okept) H → va_D A (wW_X1_wroteLike ak ad h mm ho mo kn ko Mpg Mway Mstate Mnext Msteps Mwritten Mkept Opg Oway Ostate Onext Osteps Owritten Okept) → va_S A s.heap H locs → W p l e R s m args below meth c H locs cells slots Q (F0 m 12 ls [.int r]))
    (kR57 : ∀ (r : Int32)  (H : Heap) (locs : List Loc) (ls : Array Slot), (r = 0 ∨ r = 1) → Φ r  → va_P D vwCl (wW_X1_wroteLike ak ad h mm ho mo kn ko Mpg Mway Mstate Mnext Msteps Mwritten Mkept Opg Oway Ostate Onext Osteps Owritten Okept) H → va_D A (wW_X1_wroteLike ak ad h mm ho mo kn ko Mpg Mway Mstate Mnext Msteps Mwritten Mkept Opg Oway Ostate Onext Osteps Owritten Okept) → va_S A s.heap H locs → W p l e R s m args below meth c H locs cells slots Q (F0 m 57 ls [.int r]))
    (kR65 : ∀ (r : Int32)  (H : Heap) (locs : List Loc) (ls : Array Slot), (r = 0 ∨ r = 1) → Φ r  → va_P D vwCl (wW_X1_wroteLike ak ad h mm ho mo kn ko Mpg Mway Mstate Mnext Msteps Mwritten Mkept Opg Oway Ostate Onext Osteps Owritten Okept) H → va_D A (wW_X1_wroteLike ak ad h mm ho mo kn ko Mpg Mway Mstate Mnext Msteps Mwritten Mkept Opg Oway Ostate Onext Osteps Owritten Okept) → va_S A s.heap H locs → W p l e R s m args below meth c H locs cells slots Q (F0 m 65 ls [.int r]))
    : ∀  (H : Heap) (locs : List Loc) (ls : Array Slot), wp_X1_wroteLike Mwritten Mkept Owritten Okept kn ko  Φ → va_P D vwCl (wW_X1_wroteLike ak ad h mm ho mo kn ko Mpg Mway Mstate Mnext Msteps Mwritten Mkept Opg Oway Ostate Onext Osteps Owritten Okept) H → va_D A (wW_X1_wroteLike ak ad h mm ho mo kn ko Mpg Mway Mstate Mnext Msteps Mwritten Mkept Opg Oway Ostate Onext Osteps Owritten Okept) → va_S A s.heap H locs → lv_has ls 3 [(0, .ref h), (1, .ref ho)] → W p l e R s m args below meth c H locs cells slots Q (F0 m 0 ls ([])) := by
  intro  H locs ls hw hP hD hS hl
  delta wp_X1_wroteLike at hw
  refine lv_aload_n hx hb dX1_wroteLike_0 rfl (lv_at hl 0 rfl) ?_
  refine va_get (D := D) (ci := 1) (v := .int (Mwritten)) (C := RX1) (T := TX1) (N := 12) hx hb hts (fun w h => wm_c (wc_X1 w h)) hown hE.1 hP 0 rfl rfl 11 (by decide) (hts (.fieldLink RX1 64 "WornLines$Machine" "written" "I") (wm_c hw_320)) (fun _ h9 => h9) rfl dX1_wroteLike_1 ?_
  refine lv_aload_n hx hb dX1_wroteLike_4 rfl (lv_at hl 1 rfl) ?_
  refine va_get (D := D) (ci := 1) (v := .int (Owritten)) (C := RX1) (T := TX1) (N := 12) hx hb hts (fun w h => wm_c (wc_X1 w h)) hown hE.1 hP 2 rfl rfl 11 (by decide) (hts (.fieldLink RX1 64 "WornLines$Machine" "written" "I") (wm_c hw_320)) (fun _ h9 => h9) rfl dX1_wroteLike_5 ?_
  refine lv_icmp_eq (tgt := 13) hx hb dX1_wroteLike_8 (by decide) (fun c_1 => ?_) (fun c_1 => ?_)
  · replace hw := hw.1 c_1
    refine lv_iconst (v := 0) hx hb dX1_wroteLike_13 (by decide) ?_
    refine lv_istore_n (lv' := [(2, .int (0)), (0, .ref h), (1, .ref ho)]) hx hb dX1_wroteLike_14 rfl hl (by decide) rfl (fun ls hl => ?_)
    obtain ⟨n1_, hw⟩ := hw
    exact lp_X1_wroteLike_15 hx hb hown hts hml hE hT hA h mm ho mo kn ko Mpg Mway Mstate Mnext Msteps Mwritten Mkept Opg Oway Ostate Onext Osteps Owritten Okept  Φ  kR12 kR57 kR65 n1_ 0 _ _ _ hw hP hD hS (lv_sub hl [1, 2, 0] rfl)
  · replace hw := hw.2 c_1
    refine lv_iconst (v := 0) hx hb dX1_wroteLike_11 (by decide) ?_
    exact kR12 0  _ _ _ (Or.inl rfl) hw hP hD hS
set_option maxHeartbeats 4000000 in
set_option maxRecDepth 100000 in
theorem c_X1_wroteLike (l : Launch) (D : va_G) (ak : Nat → ClassId) (ad : Nat → Nat) (sz : Nat) (h : Nat) (mm : Nat → Nat) (ho : Nat) (mo : Nat → Nat) (kn : Nat) (ko : Nat) (Mpg : Nat) (Mway : Int32) (Mstate : Int32) (Mnext : Int32) (Msteps : Int32) (Mwritten : Int32) (Mkept : Nat → Int32) (Opg : Nat) (Oway : Int32) (Ostate : Int32) (Onext : Int32) (Osteps : Int32) (Owritten : Int32) (Okept : Nat → Int32) (Φ : Int32 → Prop) (hf : wp_X1_wroteLike Mwritten Mkept Owritten Okept kn ko Φ) : Met l yX1_wroteLike wsX1_wroteLike ({ frames := 0, cells := 0, slots := 0, locals := 0 }) (cPre D ak ad [.ref h, .ref ho] ((wW_X1_wroteLike ak ad h mm ho mo kn ko Mpg Mway Mstate Mnext Msteps Mwritten Mkept Opg Oway Ostate Onext Osteps Owritten Okept)) sz) (cI D (S := Unit) (fun (r : Int32) (u : Unit) => Φ r ) (fun u => (wW_X1_wroteLike ak ad h mm ho mo kn ko Mpg Mway Mstate Mnext Msteps Mwritten Mkept Opg Oway Ostate Onext Osteps Owritten Okept)) ((wW_X1_wroteLike ak ad h mm ho mo kn ko Mpg Mway Mstate Mnext Msteps Mwritten Mkept Opg Oway Ostate Onext Osteps Owritten Okept)) sz) 0 0 (va_A ((wW_X1_wroteLike ak ad h mm ho mo kn ko Mpg Mway Mstate Mnext Msteps Mwritten Mkept Opg Oway Ostate Onext Osteps Owritten Okept)) sz) := by
  refine Met.ofW (cc := cX1_wroteLike) (maxL := 3) (ret := (some .boolean)) (by decide) rfl ?_
  intro p e s m args below meth c s₁ B hml hv
  obtain ⟨rfl, hsz, hP, hE, hD0, hT⟩ := hv
  have hx := B.exec
  have hb := B.bytes
  have hr := B.returns
  have hts := atoms_spec (ws := wsX1_wroteLike) B.pre
  have hown : s.vm.findClass RX1 = some m.cls := findClass_of_methodNamed B.named
  have hlocks := B.notSynchronized
  subst hsz
  have hD := hD0.self (sz := s.heap.size)
  generalize hAe : va_A ((wW_X1_wroteLike ak ad h mm ho mo kn ko Mpg Mway Mstate Mnext Msteps Mwritten Mkept Opg Oway Ostate Onext Osteps Owritten Okept)) s.heap.size = A at hD hT ⊢
  have hA : ∀ q : Nat, s.heap.size ≤ q → A q := fun q h => by rw [← hAe]; exact Or.inr h
  have hS : va_S A s.heap s.heap [] := va_S.rf
  have hl := lv_entry ([.ref h, .ref ho]) (n := 3) (Nat.le_of_ble_eq_true rfl)
  rw [lg_entry_eq]
  generalize (lg_sl ([.ref h, .ref ho]) ++ List.replicate (3 - (lg_sl ([.ref h, .ref ho])).length) Slot.unset).toArray = ls at hl ⊢
  have hl : lv_has ls 3 [(0, .ref h), (1, .ref ho)] := hl
  exact kj_X1_wroteLike_e hx hb hown hts hml hE hT hA h mm ho mo kn ko Mpg Mway Mstate Mnext Msteps Mwritten Mkept Opg Oway Ostate Onext Osteps Owritten Okept Φ (fun r  H locs ls hz hw hP hD hS => W.zret (v := r) hx hb hr (bl_zn hz) (fun t ht hW => ⟨⟨r, (), rfl, hw, by rw [ht]; exact hP, by rw [hAe]; exact hD⟩, by rw [hAe]; exact hS.F ht⟩) hS.2.2 dX1_wroteLike_12) (fun r  H locs ls hz hw hP hD hS => W.zret (v := r) hx hb hr (bl_zn hz) (fun t ht hW => ⟨⟨r, (), rfl, hw, by rw [ht]; exact hP, by rw [hAe]; exact hD⟩, by rw [hAe]; exact hS.F ht⟩) hS.2.2 dX1_wroteLike_57) (fun r  H locs ls hz hw hP hD hS => W.zret (v := r) hx hb hr (bl_zn hz) (fun t ht hW => ⟨⟨r, (), rfl, hw, by rw [ht]; exact hP, by rw [hAe]; exact hD⟩, by rw [hAe]; exact hS.F ht⟩) hS.2.2 dX1_wroteLike_65)  _ _ _ hf hP hD hS hl

def wW_X1_layLike (ak : Nat → ClassId) (ad : Nat → Nat) (h : Nat) (mm : Nat → Nat) (ho : Nat) (mo : Nat → Nat) (Mpg : Nat) (Mway : Int32) (Mstate : Int32) (Mnext : Int32) (Msteps : Int32) (Mwritten : Int32) (Mstuffs : Nat → Int32) (Mtwins : Nat → Int32) (Mworn : Nat → Int32) (Opg : Nat) (Oway : Int32) (Ostate : Int32) (Onext : Int32) (Osteps : Int32) (Owritten : Int32) (Ostuffs : Nat → Int32) (Otwins : Nat → Int32) : va_W := [(h, .inr (1, xob mm (Mpg) (Mway) (Mstate) (Mnext) (Msteps) (Mwritten))), ((mm 0), .inl (ak 0, 16, .inl (Mstuffs))), ((mm 1), .inl (ak 0, 16, .inl (Mtwins))), ((mm 2), .inl (ak 0, 16, .inl (Mworn))), (ho, .inr (1, xob mo (Opg) (Oway) (Ostate) (Onext) (Osteps) (Owritten))), ((mo 0), .inl (ak 0, 16, .inl (Ostuffs))), ((mo 1), .inl (ak 0, 16, .inl (Otwins)))]
def wp_X1_layLike (Opg : Nat) (Ostuffs : Nat → Int32) (Otwins : Nat → Int32) (Mpg : Nat) (Mstuffs : Nat → Int32) (Mtwins : Nat → Int32) (Mworn : Nat → Int32) (Φ : Nat → (Nat → Int32) → (Nat → Int32) → (Nat → Int32) → Prop) : Prop := wp_J7_fill_53178 16 0 Mworn (fun Ar_2 => Φ Opg (va_cpy Ostuffs Mstuffs 0 0 16) (va_cpy Otwins Mtwins 0 0 16) Ar_2)
set_option maxHeartbeats 4000000 in
set_option maxRecDepth 100000 in
theorem kj_X1_layLike_e {p : Program} {l : Launch} {e : Env} {R : Room} {s : State} {m : MethodId} {args : Array Value} {below : List Frame} {meth : Method} {c : Code} {cells slots : Nat} {Q : State → Prop} {A : Nat → Prop} {D : va_G} {ak : Nat → ClassId} {ad : Nat → Nat} (hx : p.tables.exec = Jvm.exec) (hb : c.code = cX1_layLike) (hown : s.vm.findClass RX1 = some m.cls) (hts : ∀ w ∈ wsX1_layLike, w.before args s = true) (hml : c.maxLocals = 2) (hE : EV D ak s) (hT : ST D ak ad A s s.heap) (hA : ∀ q, s.heap.size ≤ q → A q) (hRf : 1 ≤ R.frames) (hRl : 40 ≤ R.locals) (hRc : cells ≤ R.cells ∧ slots ≤ R.slots) (h : Nat) (mm : Nat → Nat) (ho : Nat) (mo : Nat → Nat) (Mway : Int32) (Mstate : Int32) (Mnext : Int32) (Msteps : Int32) (Mwritten : Int32) (Opg : Nat) (Oway : Int32) (Ostate : Int32) (Onext : Int32) (Osteps : Int32) (Owritten : Int32) (Ostuffs : Nat → Int32) (Otwins : Nat → Int32)  (Φ : Nat → (Nat → Int32) → (Nat → Int32) → (Nat → Int32) → Prop)
    (kR46 : ∀ (Mpg : Nat) (Mstuffs : Nat → Int32) (Mtwins : Nat → Int32) (Mworn : Nat → Int32) (H : Heap) (locs : List Loc) (ls : Array Slot), Φ Mpg Mstuffs Mtwins Mworn → va_P D vwCl (wW_X1_layLike ak ad h mm ho mo Mpg Mway Mstate Mnext Msteps Mwritten Mstuffs Mtwins Mworn Opg Oway Ostate Onext Osteps Owritten Ostuffs Otwins) H → va_D A (wW_X1_layLike ak ad h mm ho mo Mpg Mway Mstate Mnext Msteps Mwritten Mstuffs Mtwins Mworn Opg Oway Ostate Onext Osteps Owritten Ostuffs Otwins) → va_S A s.heap H locs → W p l e R s m args below meth c H locs cells slots Q (F0 m 46 ls []))
    : ∀ (Mpg : Nat) (Mstuffs : Nat → Int32) (Mtwins : Nat → Int32) (Mworn : Nat → Int32) (H : Heap) (locs : List Loc) (ls : Array Slot), wp_X1_layLike Opg Ostuffs Otwins Mpg Mstuffs Mtwins Mworn Φ → va_P D vwCl (wW_X1_layLike ak ad h mm ho mo Mpg Mway Mstate Mnext Msteps Mwritten Mstuffs Mtwins Mworn Opg Oway Ostate Onext Osteps Owritten Ostuffs Otwins) H → va_D A (wW_X1_layLike ak ad h mm ho mo Mpg Mway Mstate Mnext Msteps Mwritten Mstuffs Mtwins Mworn Opg Oway Ostate Onext Osteps Owritten Ostuffs Otwins) → va_S A s.heap H locs → lv_has ls 2 [(0, .ref h), (1, .ref ho)] → W p l e R s m args below meth c H locs cells slots Q (F0 m 0 ls ([])) := by
  intro Mpg Mstuffs Mtwins Mworn H locs ls hw hP hD hS hl
  delta wp_X1_layLike at hw
  refine lv_aload_n hx hb dX1_layLike_0 rfl (lv_at hl 0 rfl) ?_
  refine lv_aload_n hx hb dX1_layLike_1 rfl (lv_at hl 1 rfl) ?_
  refine vt_get (D := D) (ci := 1) (v := .ref Opg) (C := RX1) (T := TX1) (N := 12) hx hb hts (fun w h => wm_c (wc_X1 w h)) hown hE.1 hP 4 rfl rfl 0 (by decide) tX1_0 (hts (.fieldLink RX1 34 "WornLines$Machine" "programme" "LWornLines$Programme;") (wm_c hw_301)) (fun _ h9 => h9) rfl dX1_layLike_2 ?_
  refine vt_put (D := D) (ci := 1) (v := .ref Opg) (ty := .object "WornLines$Programme") (C := RX1) (T := TX1) (N := 12) hx hb hts (fun w h => wm_c (wc_X1 w h)) tyX1 tyX1_ok nmX1 hown hE.1 hP hD hS 0 rfl rfl 0 (by decide) tX1_0 (hts (.fieldLink RX1 34 "WornLines$Machine" "programme" "LWornLines$Programme;") (wm_c hw_301)) (fun _ h9 => h9) rfl pf_9 (rfl) rfl (Nat.le_of_ble_eq_true rfl) dX1_layLike_5 (fun H locs hP hD hS => ?_)
  have hP : va_P D vwCl (wW_X1_layLike ak ad h mm ho mo Opg Mway Mstate Mnext Msteps Mwritten Mstuffs Mtwins Mworn Opg Oway Ostate Onext Osteps Owritten Ostuffs Otwins) H := hP
  have hD : va_D A (wW_X1_layLike ak ad h mm ho mo Opg Mway Mstate Mnext Msteps Mwritten Mstuffs Mtwins Mworn Opg Oway Ostate Onext Osteps Owritten Ostuffs Otwins) := hD
  refine lv_aload_n hx hb dX1_layLike_8 rfl (lv_at hl 1 rfl) ?_
  refine vt_get (D := D) (ci := 1) (v := .ref (mo 0)) (C := RX1) (T := TX1) (N := 12) hx hb hts (fun w h => wm_c (wc_X1 w h)) hown hE.1 hP 4 rfl rfl 1 (by decide) tX1_1 (hts (.fieldLink RX1 9 "WornLines$Machine" "stuffs" "[I") (wm_c hw_294)) (fun _ h9 => h9) rfl dX1_layLike_9 ?_
  refine lv_iconst (v := 0) hx hb dX1_layLike_12 (by decide) ?_
  refine lv_aload_n hx hb dX1_layLike_13 rfl (lv_at hl 0 rfl) ?_
  refine vt_get (D := D) (ci := 1) (v := .ref (mm 0)) (C := RX1) (T := TX1) (N := 12) hx hb hts (fun w h => wm_c (wc_X1 w h)) hown hE.1 hP 0 rfl rfl 1 (by decide) tX1_1 (hts (.fieldLink RX1 9 "WornLines$Machine" "stuffs" "[I") (wm_c hw_294)) (fun _ h9 => h9) rfl dX1_layLike_14 ?_
  refine lv_iconst (v := 0) hx hb dX1_layLike_17 (by decide) ?_
  refine lv_bipush (v := 16) hx hb dX1_layLike_18 (by decide) ?_
  refine va_copyi hx hb (by rw [hml]; exact hl.1.symm) hown (hts (.methodLink RX1 46 arraycopyName) (wm_c hw_365)) (hts (.native arraycopyName) (wm_c hw_366)) (hts (.static arraycopyName) (wm_c hw_367)) (hts (.initialized "java/lang/System") (wm_c hw_368)) hE.1 hP hD hS 5 1 0 0 rfl rfl rfl rfl rfl (by decide) (by decide) (by decide) (by decide) (by decide) (fun _ _ => rfl) (Nat.le_trans (Nat.le_of_ble_eq_true rfl) hRf) (Nat.le_trans (Nat.le_of_ble_eq_true rfl) hRl) dX1_layLike_20 (fun H locs hP hD hS => ?_)
  have hP : va_P D vwCl (wW_X1_layLike ak ad h mm ho mo Opg Mway Mstate Mnext Msteps Mwritten (va_cpy Ostuffs Mstuffs 0 0 16) Mtwins Mworn Opg Oway Ostate Onext Osteps Owritten Ostuffs Otwins) H := hP
  have hD : va_D A (wW_X1_layLike ak ad h mm ho mo Opg Mway Mstate Mnext Msteps Mwritten (va_cpy Ostuffs Mstuffs 0 0 16) Mtwins Mworn Opg Oway Ostate Onext Osteps Owritten Ostuffs Otwins) := hD
  refine lv_aload_n hx hb dX1_layLike_23 rfl (lv_at hl 1 rfl) ?_
  refine vt_get (D := D) (ci := 1) (v := .ref (mo 1)) (C := RX1) (T := TX1) (N := 12) hx hb hts (fun w h => wm_c (wc_X1 w h)) hown hE.1 hP 4 rfl rfl 2 (by decide) tX1_2 (hts (.fieldLink RX1 15 "WornLines$Machine" "twins" "[I") (wm_c hw_295)) (fun _ h9 => h9) rfl dX1_layLike_24 ?_
  refine lv_iconst (v := 0) hx hb dX1_layLike_27 (by decide) ?_
  refine lv_aload_n hx hb dX1_layLike_28 rfl (lv_at hl 0 rfl) ?_
  refine vt_get (D := D) (ci := 1) (v := .ref (mm 1)) (C := RX1) (T := TX1) (N := 12) hx hb hts (fun w h => wm_c (wc_X1 w h)) hown hE.1 hP 0 rfl rfl 2 (by decide) tX1_2 (hts (.fieldLink RX1 15 "WornLines$Machine" "twins" "[I") (wm_c hw_295)) (fun _ h9 => h9) rfl dX1_layLike_29 ?_
  refine lv_iconst (v := 0) hx hb dX1_layLike_32 (by decide) ?_
  refine lv_bipush (v := 16) hx hb dX1_layLike_33 (by decide) ?_
  refine va_copyi hx hb (by rw [hml]; exact hl.1.symm) hown (hts (.methodLink RX1 46 arraycopyName) (wm_c hw_365)) (hts (.native arraycopyName) (wm_c hw_366)) (hts (.static arraycopyName) (wm_c hw_367)) (hts (.initialized "java/lang/System") (wm_c hw_368)) hE.1 hP hD hS 6 2 0 0 rfl rfl rfl rfl rfl (by decide) (by decide) (by decide) (by decide) (by decide) (fun _ _ => rfl) (Nat.le_trans (Nat.le_of_ble_eq_true rfl) hRf) (Nat.le_trans (Nat.le_of_ble_eq_true rfl) hRl) dX1_layLike_35 (fun H locs hP hD hS => ?_)
  have hP : va_P D vwCl (wW_X1_layLike ak ad h mm ho mo Opg Mway Mstate Mnext Msteps Mwritten (va_cpy Ostuffs Mstuffs 0 0 16) (va_cpy Otwins Mtwins 0 0 16) Mworn Opg Oway Ostate Onext Osteps Owritten Ostuffs Otwins) H := hP
  have hD : va_D A (wW_X1_layLike ak ad h mm ho mo Opg Mway Mstate Mnext Msteps Mwritten (va_cpy Ostuffs Mstuffs 0 0 16) (va_cpy Otwins Mtwins 0 0 16) Mworn Opg Oway Ostate Onext Osteps Owritten Ostuffs Otwins) := hD
  refine lv_aload_n hx hb dX1_layLike_38 rfl (lv_at hl 0 rfl) ?_
  refine vt_get (D := D) (ci := 1) (v := .ref (mm 2)) (C := RX1) (T := TX1) (N := 12) hx hb hts (fun w h => wm_c (wc_X1 w h)) hown hE.1 hP 0 rfl rfl 3 (by decide) tX1_3 (hts (.fieldLink RX1 18 "WornLines$Machine" "worn" "[I") (wm_c hw_296)) (fun _ h9 => h9) rfl dX1_layLike_39 ?_
  refine lv_iconst (v := 0) hx hb dX1_layLike_42 (by decide) ?_
  refine kc_v (wc := (wW_J7_fill_53178 ak ad (mm 2) 16 Mworn)) (wr := [(h, .inr (1, xob mm (Opg) (Mway) (Mstate) (Mnext) (Msteps) (Mwritten))), ((mm 0), .inl (ak 0, 16, .inl (va_cpy Ostuffs Mstuffs 0 0 16))), ((mm 1), .inl (ak 0, 16, .inl (va_cpy Otwins Mtwins 0 0 16))), (ho, .inr (1, xob mo (Opg) (Oway) (Ostate) (Onext) (Osteps) (Owritten))), ((mo 0), .inl (ak 0, 16, .inl (Ostuffs))), ((mo 1), .inl (ak 0, 16, .inl (Otwins)))]) hP hD hS hA [3] [0, 1, 2, 4, 5, 6] rfl rfl (by decide) (by decide) (va_runS (As := [.ref (mm 2), .int (0)]) (rest := []) ⟨hx, hb, hml, hown, hts⟩ (c_J7_fill_53178 l D ak ad _ (mm 2) 16 Mworn 0 _ hw) (va_cwS 2 hts gX1_layLike_J7_fill_53178 rfl rfl rfl hz_J7_fill_53178 ⟨(Nat.le_trans (Nat.le_of_ble_eq_true rfl) hRf), (Nat.le_trans (Nat.le_of_ble_eq_true rfl) hRl)⟩) (kc_pre (As := [.ref (mm 2), .int (0)]) (wc := (wW_J7_fill_53178 ak ad (mm 2) 16 Mworn)) hE hT hP hD hS hA [3] (by decide) rfl rfl) rfl rfl hl.1 rfl (lv_room (Nat.le_of_ble_eq_true rfl)) dX1_layLike_43 ⟨hRc.1, hRc.2⟩) (fun Ar_2 H locs hw hP hD hS => ?_)
  try dsimp -zeta only at hw
  have hP : va_P D vwCl (wW_X1_layLike ak ad h mm ho mo Opg Mway Mstate Mnext Msteps Mwritten (va_cpy Ostuffs Mstuffs 0 0 16) (va_cpy Otwins Mtwins 0 0 16) Ar_2 Opg Oway Ostate Onext Osteps Owritten Ostuffs Otwins) H := hP.sub [0, 1, 2, 6, 3, 4, 5] rfl
  have hD : va_D A (wW_X1_layLike ak ad h mm ho mo Opg Mway Mstate Mnext Msteps Mwritten (va_cpy Ostuffs Mstuffs 0 0 16) (va_cpy Otwins Mtwins 0 0 16) Ar_2 Opg Oway Ostate Onext Osteps Owritten Ostuffs Otwins) := hD.sub [0, 1, 2, 6, 3, 4, 5] (by decide) rfl
  exact kR46 Opg (va_cpy Ostuffs Mstuffs 0 0 16) (va_cpy Otwins Mtwins 0 0 16) Ar_2 _ _ _ hw hP hD hS
set_option maxHeartbeats 4000000 in
set_option maxRecDepth 100000 in
theorem c_X1_layLike (l : Launch) (D : va_G) (ak : Nat → ClassId) (ad : Nat → Nat) (sz : Nat) (h : Nat) (mm : Nat → Nat) (ho : Nat) (mo : Nat → Nat) (Mpg : Nat) (Mway : Int32) (Mstate : Int32) (Mnext : Int32) (Msteps : Int32) (Mwritten : Int32) (Mstuffs : Nat → Int32) (Mtwins : Nat → Int32) (Mworn : Nat → Int32) (Opg : Nat) (Oway : Int32) (Ostate : Int32) (Onext : Int32) (Osteps : Int32) (Owritten : Int32) (Ostuffs : Nat → Int32) (Otwins : Nat → Int32) (Φ : Nat → (Nat → Int32) → (Nat → Int32) → (Nat → Int32) → Prop) (hf : wp_X1_layLike Opg Ostuffs Otwins Mpg Mstuffs Mtwins Mworn Φ) : Met l yX1_layLike wsX1_layLike ({ frames := 1, cells := 0, slots := 0, locals := 40 }) (cPre D ak ad [.ref h, .ref ho] ((wW_X1_layLike ak ad h mm ho mo Mpg Mway Mstate Mnext Msteps Mwritten Mstuffs Mtwins Mworn Opg Oway Ostate Onext Osteps Owritten Ostuffs Otwins)) sz) (cV D (S := (Nat) × (Nat → Int32) × (Nat → Int32) × (Nat → Int32)) (fun (u : (Nat) × (Nat → Int32) × (Nat → Int32) × (Nat → Int32)) => Φ u.1 u.2.1 u.2.2.1 u.2.2.2) (fun u => (wW_X1_layLike ak ad h mm ho mo u.1 Mway Mstate Mnext Msteps Mwritten u.2.1 u.2.2.1 u.2.2.2 Opg Oway Ostate Onext Osteps Owritten Ostuffs Otwins)) ((wW_X1_layLike ak ad h mm ho mo Mpg Mway Mstate Mnext Msteps Mwritten Mstuffs Mtwins Mworn Opg Oway Ostate Onext Osteps Owritten Ostuffs Otwins)) sz) 0 0 (va_A ((wW_X1_layLike ak ad h mm ho mo Mpg Mway Mstate Mnext Msteps Mwritten Mstuffs Mtwins Mworn Opg Oway Ostate Onext Osteps Owritten Ostuffs Otwins)) sz) := by
  refine Met.ofW (cc := cX1_layLike) (maxL := 2) (ret := none) (by decide) rfl ?_
  intro p e s m args below meth c s₁ B hml hv
  obtain ⟨rfl, hsz, hP, hE, hD0, hT⟩ := hv
  have hx := B.exec
  have hb := B.bytes
  have hr := B.returns
  have hts := atoms_spec (ws := wsX1_layLike) B.pre
  have hown : s.vm.findClass RX1 = some m.cls := findClass_of_methodNamed B.named
  have hlocks := B.notSynchronized
  subst hsz
  have hD := hD0.self (sz := s.heap.size)
  generalize hAe : va_A ((wW_X1_layLike ak ad h mm ho mo Mpg Mway Mstate Mnext Msteps Mwritten Mstuffs Mtwins Mworn Opg Oway Ostate Onext Osteps Owritten Ostuffs Otwins)) s.heap.size = A at hD hT ⊢
  have hA : ∀ q : Nat, s.heap.size ≤ q → A q := fun q h => by rw [← hAe]; exact Or.inr h
  have hS : va_S A s.heap s.heap [] := va_S.rf
  have hl := lv_entry ([.ref h, .ref ho]) (n := 2) (Nat.le_of_ble_eq_true rfl)
  rw [lg_entry_eq]
  generalize (lg_sl ([.ref h, .ref ho]) ++ List.replicate (2 - (lg_sl ([.ref h, .ref ho])).length) Slot.unset).toArray = ls at hl ⊢
  have hl : lv_has ls 2 [(0, .ref h), (1, .ref ho)] := hl
  exact kj_X1_layLike_e hx hb hown hts hml hE hT hA (Nat.le_of_ble_eq_true rfl) (Nat.le_of_ble_eq_true rfl) ⟨Nat.le_of_ble_eq_true rfl, Nat.le_of_ble_eq_true rfl⟩ h mm ho mo Mway Mstate Mnext Msteps Mwritten Opg Oway Ostate Onext Osteps Owritten Ostuffs Otwins Φ (fun Mpg Mstuffs Mtwins Mworn H locs ls hw hP hD hS => W.vret hx hb hr (fun t ht hW => ⟨⟨(Mpg, Mstuffs, Mtwins, Mworn), rfl, hw, by rw [ht]; exact hP, by rw [hAe]; exact hD⟩, by rw [hAe]; exact hS.F ht⟩) hS.2.2 dX1_layLike_46) Mpg Mstuffs Mtwins Mworn _ _ _ hf hP hD hS hl

def wW_X1_copy (ak : Nat → ClassId) (ad : Nat → Nat) (h : Nat) (mm : Nat → Nat) (ho : Nat) (mo : Nat → Nat) (kn : Nat) (ko : Nat) (Mpg : Nat) (Mway : Int32) (Mstate : Int32) (Mnext : Int32) (Msteps : Int32) (Mwritten : Int32) (Mstuffs : Nat → Int32) (Mtwins : Nat → Int32) (Mworn : Nat → Int32) (Mcells : Nat → Int32) (Mkept : Nat → Int32) (Opg : Nat) (Oway : Int32) (Ostate : Int32) (Onext : Int32) (Osteps : Int32) (Owritten : Int32) (Ostuffs : Nat → Int32) (Otwins : Nat → Int32) (Oworn : Nat → Int32) (Ocells : Nat → Int32) (Okept : Nat → Int32) : va_W := [(h, .inr (1, xob mm (Mpg) (Mway) (Mstate) (Mnext) (Msteps) (Mwritten))), ((mm 0), .inl (ak 0, 16, .inl (Mstuffs))), ((mm 1), .inl (ak 0, 16, .inl (Mtwins))), ((mm 2), .inl (ak 0, 16, .inl (Mworn))), ((mm 3), .inl (ak 0, 6, .inl (Mcells))), ((mm 4), .inl (ak 0, kn, .inl (Mkept))), (ho, .inr (1, xob mo (Opg) (Oway) (Ostate) (Onext) (Osteps) (Owritten))), ((mo 0), .inl (ak 0, 16, .inl (Ostuffs))), ((mo 1), .inl (ak 0, 16, .inl (Otwins))), ((mo 2), .inl (ak 0, 16, .inl (Oworn))), ((mo 3), .inl (ak 0, 6, .inl (Ocells))), ((mo 4), .inl (ak 0, ko, .inl (Okept)))]
def wp_X1_copy (Opg : Nat) (Oway : Int32) (Ostate : Int32) (Onext : Int32) (Osteps : Int32) (Owritten : Int32) (Ostuffs : Nat → Int32) (Otwins : Nat → Int32) (Oworn : Nat → Int32) (Ocells : Nat → Int32) (Okept : Nat → Int32) (kn : Nat) (ko : Nat) (Mpg : Nat) (Mway : Int32) (Mstate : Int32) (Mnext : Int32) (Msteps : Int32) (Mwritten : Int32) (Mstuffs : Nat → Int32) (Mtwins : Nat → Int32) (Mworn : Nat → Int32) (Mcells : Nat → Int32) (Mkept : Nat → Int32) (Φ : Nat → Int32 → Int32 → Int32 → Int32 → Int32 → (Nat → Int32) → (Nat → Int32) → (Nat → Int32) → (Nat → Int32) → (Nat → Int32) → Prop) : Prop := wp_X1_layLike Opg Ostuffs Otwins Mpg Mstuffs Mtwins Mworn (fun Mpg_2 Mstuffs_3 Mtwins_4 Mworn_5 => ¬ (if (nI kn) < (nI ko) then (nI kn) else (nI ko)) < 0 ∧ (if (nI kn) < (nI ko) then (nI kn) else (nI ko)).toNatClampNeg ≤ ko ∧ (if (nI kn) < (nI ko) then (nI kn) else (nI ko)).toNatClampNeg ≤ kn ∧ Φ Mpg_2 Oway Ostate Onext Osteps Owritten Mstuffs_3 Mtwins_4 (va_cpy Oworn Mworn_5 0 0 16) (va_cpy Ocells Mcells 0 0 6) (va_cpy Okept Mkept 0 0 (if (nI kn) < (nI ko) then (nI kn) else (nI ko)).toNatClampNeg))
set_option maxHeartbeats 4000000 in
set_option maxRecDepth 100000 in
theorem kj_X1_copy_e {p : Program} {l : Launch} {e : Env} {R : Room} {s : State} {m : MethodId} {args : Array Value} {below : List Frame} {meth : Method} {c : Code} {cells slots : Nat} {Q : State → Prop} {A : Nat → Prop} {D : va_G} {ak : Nat → ClassId} {ad : Nat → Nat} (hx : p.tables.exec = Jvm.exec) (hb : c.code = cX1_copy) (hown : s.vm.findClass RX1 = some m.cls) (hts : ∀ w ∈ wsX1_copy, w.before args s = true) (hml : c.maxLocals = 2) (hE : EV D ak s) (hT : ST D ak ad A s s.heap) (hA : ∀ q, s.heap.size ≤ q → A q) (hRf : 2 ≤ R.frames) (hRl : 61 ≤ R.locals) (hRc : cells ≤ R.cells ∧ slots ≤ R.slots) (h : Nat) (mm : Nat → Nat) (ho : Nat) (mo : Nat → Nat) (kn : Nat) (ko : Nat) (Opg : Nat) (Oway : Int32) (Ostate : Int32) (Onext : Int32) (Osteps : Int32) (Owritten : Int32) (Ostuffs : Nat → Int32) (Otwins : Nat → Int32) (Oworn : Nat → Int32) (Ocells : Nat → Int32) (Okept : Nat → Int32)  (Φ : Nat → Int32 → Int32 → Int32 → Int32 → Int32 → (Nat → Int32) → (Nat → Int32) → (Nat → Int32) → (Nat → Int32) → (Nat → Int32) → Prop)
    (kR101 : ∀ (Mpg : Nat) (Mway : Int32) (Mstate : Int32) (Mnext : Int32) (Msteps : Int32) (Mwritten : Int32) (Mstuffs : Nat → Int32) (Mtwins : Nat → Int32) (Mworn : Nat → Int32) (Mcells : Nat → Int32) (Mkept : Nat → Int32) (H : Heap) (locs : List Loc) (ls : Array Slot), Φ Mpg Mway Mstate Mnext Msteps Mwritten Mstuffs Mtwins Mworn Mcells Mkept → va_P D vwCl (wW_X1_copy ak ad h mm ho mo kn ko Mpg Mway Mstate Mnext Msteps Mwritten Mstuffs Mtwins Mworn Mcells Mkept Opg Oway Ostate Onext Osteps Owritten Ostuffs Otwins Oworn Ocells Okept) H → va_D A (wW_X1_copy ak ad h mm ho mo kn ko Mpg Mway Mstate Mnext Msteps Mwritten Mstuffs Mtwins Mworn Mcells Mkept Opg Oway Ostate Onext Osteps Owritten Ostuffs Otwins Oworn Ocells Okept) → va_S A s.heap H locs → W p l e R s m args below meth c H locs cells slots Q (F0 m 101 ls []))
    : ∀ (Mpg : Nat) (Mway : Int32) (Mstate : Int32) (Mnext : Int32) (Msteps : Int32) (Mwritten : Int32) (Mstuffs : Nat → Int32) (Mtwins : Nat → Int32) (Mworn : Nat → Int32) (Mcells : Nat → Int32) (Mkept : Nat → Int32) (H : Heap) (locs : List Loc) (ls : Array Slot), wp_X1_copy Opg Oway Ostate Onext Osteps Owritten Ostuffs Otwins Oworn Ocells Okept kn ko Mpg Mway Mstate Mnext Msteps Mwritten Mstuffs Mtwins Mworn Mcells Mkept Φ → va_P D vwCl (wW_X1_copy ak ad h mm ho mo kn ko Mpg Mway Mstate Mnext Msteps Mwritten Mstuffs Mtwins Mworn Mcells Mkept Opg Oway Ostate Onext Osteps Owritten Ostuffs Otwins Oworn Ocells Okept) H → va_D A (wW_X1_copy ak ad h mm ho mo kn ko Mpg Mway Mstate Mnext Msteps Mwritten Mstuffs Mtwins Mworn Mcells Mkept Opg Oway Ostate Onext Osteps Owritten Ostuffs Otwins Oworn Ocells Okept) → va_S A s.heap H locs → lv_has ls 2 [(0, .ref h), (1, .ref ho)] → W p l e R s m args below meth c H locs cells slots Q (F0 m 0 ls ([])) := by
  intro Mpg Mway Mstate Mnext Msteps Mwritten Mstuffs Mtwins Mworn Mcells Mkept H locs ls hw hP hD hS hl
  delta wp_X1_copy at hw
  refine lv_aload_n hx hb dX1_copy_0 rfl (lv_at hl 0 rfl) ?_
  refine lv_aload_n hx hb dX1_copy_1 rfl (lv_at hl 1 rfl) ?_
  refine kc_v (wc := (wW_X1_layLike ak ad h mm ho mo Mpg Mway Mstate Mnext Msteps Mwritten Mstuffs Mtwins Mworn Opg Oway Ostate Onext Osteps Owritten Ostuffs Otwins)) (wr := [((mm 3), .inl (ak 0, 6, .inl (Mcells))), ((mm 4), .inl (ak 0, kn, .inl (Mkept))), ((mo 2), .inl (ak 0, 16, .inl (Oworn))), ((mo 3), .inl (ak 0, 6, .inl (Ocells))), ((mo 4), .inl (ak 0, ko, .inl (Okept)))]) hP hD hS hA [0, 1, 2, 3, 6, 7, 8] [4, 5, 9, 10, 11] rfl rfl (by decide) (by decide) (va_runV (As := [.ref ho]) (rest := []) ⟨hx, hb, hml, hown, hts⟩ (c_X1_layLike l D ak ad _ h mm ho mo Mpg Mway Mstate Mnext Msteps Mwritten Mstuffs Mtwins Mworn Opg Oway Ostate Onext Osteps Owritten Ostuffs Otwins _ hw) (cwV 1 hts gX1_copy_X1_layLike rfl rfl rfl hv_X1_layLike ⟨(Nat.le_trans (Nat.le_of_ble_eq_true rfl) hRf), (Nat.le_trans (Nat.le_of_ble_eq_true rfl) hRl)⟩) (kc_preV (As := [.ref ho]) (wc := (wW_X1_layLike ak ad h mm ho mo Mpg Mway Mstate Mnext Msteps Mwritten Mstuffs Mtwins Mworn Opg Oway Ostate Onext Osteps Owritten Ostuffs Otwins)) hE hT hP hD hS hA [0, 1, 2, 3, 6, 7, 8] (by decide) rfl rfl 0 1 rfl rfl rfl) rfl rfl hl.1 rfl (lv_room (Nat.le_of_ble_eq_true rfl)) dX1_copy_2 ⟨hRc.1, hRc.2⟩) (fun u_1 H locs hw hP hD hS => ?_)
  obtain ⟨Mpg_2, Mstuffs_3, Mtwins_4, Mworn_5⟩ := u_1
  try dsimp -zeta only at hw
  have hP : va_P D vwCl (wW_X1_copy ak ad h mm ho mo kn ko Mpg_2 Mway Mstate Mnext Msteps Mwritten Mstuffs_3 Mtwins_4 Mworn_5 Mcells Mkept Opg Oway Ostate Onext Osteps Owritten Ostuffs Otwins Oworn Ocells Okept) H := hP.sub [5, 6, 7, 8, 0, 1, 9, 10, 11, 2, 3, 4] rfl
  have hD : va_D A (wW_X1_copy ak ad h mm ho mo kn ko Mpg_2 Mway Mstate Mnext Msteps Mwritten Mstuffs_3 Mtwins_4 Mworn_5 Mcells Mkept Opg Oway Ostate Onext Osteps Owritten Ostuffs Otwins Oworn Ocells Okept) := hD.sub [5, 6, 7, 8, 0, 1, 9, 10, 11, 2, 3, 4] (by decide) rfl
  refine lv_aload_n hx hb dX1_copy_5 rfl (lv_at hl 1 rfl) ?_
  refine vt_get (D := D) (ci := 1) (v := .ref (mo 2)) (C := RX1) (T := TX1) (N := 12) hx hb hts (fun w h => wm_c (wc_X1 w h)) hown hE.1 hP 6 rfl rfl 3 (by decide) tX1_3 (hts (.fieldLink RX1 18 "WornLines$Machine" "worn" "[I") (wm_c hw_296)) (fun _ h9 => h9) rfl dX1_copy_6 ?_
  refine lv_iconst (v := 0) hx hb dX1_copy_9 (by decide) ?_
  refine lv_aload_n hx hb dX1_copy_10 rfl (lv_at hl 0 rfl) ?_
  refine vt_get (D := D) (ci := 1) (v := .ref (mm 2)) (C := RX1) (T := TX1) (N := 12) hx hb hts (fun w h => wm_c (wc_X1 w h)) hown hE.1 hP 0 rfl rfl 3 (by decide) tX1_3 (hts (.fieldLink RX1 18 "WornLines$Machine" "worn" "[I") (wm_c hw_296)) (fun _ h9 => h9) rfl dX1_copy_11 ?_
  refine lv_iconst (v := 0) hx hb dX1_copy_14 (by decide) ?_
  refine lv_bipush (v := 16) hx hb dX1_copy_15 (by decide) ?_
  refine va_copyi hx hb (by rw [hml]; exact hl.1.symm) hown (hts (.methodLink RX1 46 arraycopyName) (wm_c hw_365)) (hts (.native arraycopyName) (wm_c hw_366)) (hts (.static arraycopyName) (wm_c hw_367)) (hts (.initialized "java/lang/System") (wm_c hw_368)) hE.1 hP hD hS 9 3 0 0 rfl rfl rfl rfl rfl (by decide) (by decide) (by decide) (by decide) (by decide) (fun _ _ => rfl) (Nat.le_trans (Nat.le_of_ble_eq_true rfl) hRf) (Nat.le_trans (Nat.le_of_ble_eq_true rfl) hRl) dX1_copy_17 (fun H locs hP hD hS => ?_)
  have hP : va_P D vwCl (wW_X1_copy ak ad h mm ho mo kn ko Mpg_2 Mway Mstate Mnext Msteps Mwritten Mstuffs_3 Mtwins_4 (va_cpy Oworn Mworn_5 0 0 16) Mcells Mkept Opg Oway Ostate Onext Osteps Owritten Ostuffs Otwins Oworn Ocells Okept) H := hP
  have hD : va_D A (wW_X1_copy ak ad h mm ho mo kn ko Mpg_2 Mway Mstate Mnext Msteps Mwritten Mstuffs_3 Mtwins_4 (va_cpy Oworn Mworn_5 0 0 16) Mcells Mkept Opg Oway Ostate Onext Osteps Owritten Ostuffs Otwins Oworn Ocells Okept) := hD
  refine lv_aload_n hx hb dX1_copy_20 rfl (lv_at hl 1 rfl) ?_
  refine vt_get (D := D) (ci := 1) (v := .ref (mo 3)) (C := RX1) (T := TX1) (N := 12) hx hb hts (fun w h => wm_c (wc_X1 w h)) hown hE.1 hP 6 rfl rfl 4 (by decide) tX1_4 (hts (.fieldLink RX1 21 "WornLines$Machine" "cells" "[I") (wm_c hw_297)) (fun _ h9 => h9) rfl dX1_copy_21 ?_
  refine lv_iconst (v := 0) hx hb dX1_copy_24 (by decide) ?_
  refine lv_aload_n hx hb dX1_copy_25 rfl (lv_at hl 0 rfl) ?_
  refine vt_get (D := D) (ci := 1) (v := .ref (mm 3)) (C := RX1) (T := TX1) (N := 12) hx hb hts (fun w h => wm_c (wc_X1 w h)) hown hE.1 hP 0 rfl rfl 4 (by decide) tX1_4 (hts (.fieldLink RX1 21 "WornLines$Machine" "cells" "[I") (wm_c hw_297)) (fun _ h9 => h9) rfl dX1_copy_26 ?_
  refine lv_iconst (v := 0) hx hb dX1_copy_29 (by decide) ?_
  refine lv_bipush (v := 6) hx hb dX1_copy_30 (by decide) ?_
  refine va_copyi hx hb (by rw [hml]; exact hl.1.symm) hown (hts (.methodLink RX1 46 arraycopyName) (wm_c hw_365)) (hts (.native arraycopyName) (wm_c hw_366)) (hts (.static arraycopyName) (wm_c hw_367)) (hts (.initialized "java/lang/System") (wm_c hw_368)) hE.1 hP hD hS 10 4 0 0 rfl rfl rfl rfl rfl (by decide) (by decide) (by decide) (by decide) (by decide) (fun _ _ => rfl) (Nat.le_trans (Nat.le_of_ble_eq_true rfl) hRf) (Nat.le_trans (Nat.le_of_ble_eq_true rfl) hRl) dX1_copy_32 (fun H locs hP hD hS => ?_)
  have hP : va_P D vwCl (wW_X1_copy ak ad h mm ho mo kn ko Mpg_2 Mway Mstate Mnext Msteps Mwritten Mstuffs_3 Mtwins_4 (va_cpy Oworn Mworn_5 0 0 16) (va_cpy Ocells Mcells 0 0 6) Mkept Opg Oway Ostate Onext Osteps Owritten Ostuffs Otwins Oworn Ocells Okept) H := hP
  have hD : va_D A (wW_X1_copy ak ad h mm ho mo kn ko Mpg_2 Mway Mstate Mnext Msteps Mwritten Mstuffs_3 Mtwins_4 (va_cpy Oworn Mworn_5 0 0 16) (va_cpy Ocells Mcells 0 0 6) Mkept Opg Oway Ostate Onext Osteps Owritten Ostuffs Otwins Oworn Ocells Okept) := hD
  refine lv_aload_n hx hb dX1_copy_35 rfl (lv_at hl 1 rfl) ?_
  refine vt_get (D := D) (ci := 1) (v := .ref (mo 4)) (C := RX1) (T := TX1) (N := 12) hx hb hts (fun w h => wm_c (wc_X1 w h)) hown hE.1 hP 6 rfl rfl 5 (by decide) tX1_5 (hts (.fieldLink RX1 38 "WornLines$Machine" "kept" "[I") (wm_c hw_302)) (fun _ h9 => h9) rfl dX1_copy_36 ?_
  refine lv_iconst (v := 0) hx hb dX1_copy_39 (by decide) ?_
  refine lv_aload_n hx hb dX1_copy_40 rfl (lv_at hl 0 rfl) ?_
  refine vt_get (D := D) (ci := 1) (v := .ref (mm 4)) (C := RX1) (T := TX1) (N := 12) hx hb hts (fun w h => wm_c (wc_X1 w h)) hown hE.1 hP 0 rfl rfl 5 (by decide) tX1_5 (hts (.fieldLink RX1 38 "WornLines$Machine" "kept" "[I") (wm_c hw_302)) (fun _ h9 => h9) rfl dX1_copy_41 ?_
  refine lv_iconst (v := 0) hx hb dX1_copy_44 (by decide) ?_
  refine lv_aload_n hx hb dX1_copy_45 rfl (lv_at hl 1 rfl) ?_
  refine vt_get (D := D) (ci := 1) (v := .ref (mo 4)) (C := RX1) (T := TX1) (N := 12) hx hb hts (fun w h => wm_c (wc_X1 w h)) hown hE.1 hP 6 rfl rfl 5 (by decide) tX1_5 (hts (.fieldLink RX1 38 "WornLines$Machine" "kept" "[I") (wm_c hw_302)) (fun _ h9 => h9) rfl dX1_copy_46 ?_
  refine va_alen hx hb hE.1 hP 11 0 rfl rfl (v := nI ko) rfl dX1_copy_49 ?_
  refine lv_aload_n hx hb dX1_copy_50 rfl (lv_at hl 0 rfl) ?_
  refine vt_get (D := D) (ci := 1) (v := .ref (mm 4)) (C := RX1) (T := TX1) (N := 12) hx hb hts (fun w h => wm_c (wc_X1 w h)) hown hE.1 hP 0 rfl rfl 5 (by decide) tX1_5 (hts (.fieldLink RX1 38 "WornLines$Machine" "kept" "[I") (wm_c hw_302)) (fun _ h9 => h9) rfl dX1_copy_51 ?_
  refine va_alen hx hb hE.1 hP 5 0 rfl rfl (v := nI kn) rfl dX1_copy_54 ?_
  refine va_mmin hx hb (by rw [hml]; exact hl.1.symm) hown (hts (.methodLink RX1 71 Lib.Math.min.name) (wm_c hw_336)) (hts (.static Lib.Math.min.name) (wm_c hw_217)) (hts (.initialized "java/lang/Math") (wm_c hw_184)) (hts (.code Lib.Math.min.name Lib.Math.min.code 2 (some .int)) (wm_c hw_218)) (Nat.le_trans (Nat.le_of_ble_eq_true rfl) hRf) (Nat.le_trans (Nat.le_of_ble_eq_true rfl) hRl) hRc.1 hRc.2 dX1_copy_55 ?_
  obtain ⟨h_7, hw⟩ := hw
  obtain ⟨h_8, hw⟩ := hw
  obtain ⟨h_9, hw⟩ := hw
  refine va_copyi hx hb (by rw [hml]; exact hl.1.symm) hown (hts (.methodLink RX1 46 arraycopyName) (wm_c hw_365)) (hts (.native arraycopyName) (wm_c hw_366)) (hts (.static arraycopyName) (wm_c hw_367)) (hts (.initialized "java/lang/System") (wm_c hw_368)) hE.1 hP hD hS 11 5 0 0 rfl rfl rfl rfl rfl (by decide) (by decide) (h_7) (by rw [show (0 : Int32).toNatClampNeg = 0 from rfl, Nat.zero_add]; exact h_8) (by rw [show (0 : Int32).toNatClampNeg = 0 from rfl, Nat.zero_add]; exact h_9) (fun _ _ => rfl) (Nat.le_trans (Nat.le_of_ble_eq_true rfl) hRf) (Nat.le_trans (Nat.le_of_ble_eq_true rfl) hRl) dX1_copy_58 (fun H locs hP hD hS => ?_)
  have hP : va_P D vwCl (wW_X1_copy ak ad h mm ho mo kn ko Mpg_2 Mway Mstate Mnext Msteps Mwritten Mstuffs_3 Mtwins_4 (va_cpy Oworn Mworn_5 0 0 16) (va_cpy Ocells Mcells 0 0 6) (va_cpy Okept Mkept 0 0 (if (nI kn) < (nI ko) then (nI kn) else (nI ko)).toNatClampNeg) Opg Oway Ostate Onext Osteps Owritten Ostuffs Otwins Oworn Ocells Okept) H := hP
  have hD : va_D A (wW_X1_copy ak ad h mm ho mo kn ko Mpg_2 Mway Mstate Mnext Msteps Mwritten Mstuffs_3 Mtwins_4 (va_cpy Oworn Mworn_5 0 0 16) (va_cpy Ocells Mcells 0 0 6) (va_cpy Okept Mkept 0 0 (if (nI kn) < (nI ko) then (nI kn) else (nI ko)).toNatClampNeg) Opg Oway Ostate Onext Osteps Owritten Ostuffs Otwins Oworn Ocells Okept) := hD
  refine lv_aload_n hx hb dX1_copy_61 rfl (lv_at hl 0 rfl) ?_
  refine lv_aload_n hx hb dX1_copy_62 rfl (lv_at hl 1 rfl) ?_
  refine vt_get (D := D) (ci := 1) (v := .int (Oway)) (C := RX1) (T := TX1) (N := 12) hx hb hts (fun w h => wm_c (wc_X1 w h)) hown hE.1 hP 6 rfl rfl 7 (by decide) tX1_7 (hts (.fieldLink RX1 27 "WornLines$Machine" "way" "I") (wm_c hw_299)) (fun _ h9 => h9) rfl dX1_copy_63 ?_
  refine vt_put (D := D) (ci := 1) (v := .int (Oway)) (ty := .int) (C := RX1) (T := TX1) (N := 12) hx hb hts (fun w h => wm_c (wc_X1 w h)) tyX1 tyX1_ok nmX1 hown hE.1 hP hD hS 0 rfl rfl 7 (by decide) tX1_7 (hts (.fieldLink RX1 27 "WornLines$Machine" "way" "I") (wm_c hw_299)) (fun _ h9 => h9) rfl pf_0 (rfl) rfl (Nat.le_of_ble_eq_true rfl) dX1_copy_66 (fun H locs hP hD hS => ?_)
  have hP : va_P D vwCl (wW_X1_copy ak ad h mm ho mo kn ko Mpg_2 Oway Mstate Mnext Msteps Mwritten Mstuffs_3 Mtwins_4 (va_cpy Oworn Mworn_5 0 0 16) (va_cpy Ocells Mcells 0 0 6) (va_cpy Okept Mkept 0 0 (if (nI kn) < (nI ko) then (nI kn) else (nI ko)).toNatClampNeg) Opg Oway Ostate Onext Osteps Owritten Ostuffs Otwins Oworn Ocells Okept) H := hP
  have hD : va_D A (wW_X1_copy ak ad h mm ho mo kn ko Mpg_2 Oway Mstate Mnext Msteps Mwritten Mstuffs_3 Mtwins_4 (va_cpy Oworn Mworn_5 0 0 16) (va_cpy Ocells Mcells 0 0 6) (va_cpy Okept Mkept 0 0 (if (nI kn) < (nI ko) then (nI kn) else (nI ko)).toNatClampNeg) Opg Oway Ostate Onext Osteps Owritten Ostuffs Otwins Oworn Ocells Okept) := hD
  refine lv_aload_n hx hb dX1_copy_69 rfl (lv_at hl 0 rfl) ?_
  refine lv_aload_n hx hb dX1_copy_70 rfl (lv_at hl 1 rfl) ?_
  refine vt_get (D := D) (ci := 1) (v := .int (Ostate)) (C := RX1) (T := TX1) (N := 12) hx hb hts (fun w h => wm_c (wc_X1 w h)) hown hE.1 hP 6 rfl rfl 8 (by decide) tX1_8 (hts (.fieldLink RX1 31 "WornLines$Machine" "state" "I") (wm_c hw_300)) (fun _ h9 => h9) rfl dX1_copy_71 ?_
  refine vt_put (D := D) (ci := 1) (v := .int (Ostate)) (ty := .int) (C := RX1) (T := TX1) (N := 12) hx hb hts (fun w h => wm_c (wc_X1 w h)) tyX1 tyX1_ok nmX1 hown hE.1 hP hD hS 0 rfl rfl 8 (by decide) tX1_8 (hts (.fieldLink RX1 31 "WornLines$Machine" "state" "I") (wm_c hw_300)) (fun _ h9 => h9) rfl pf_0 (rfl) rfl (Nat.le_of_ble_eq_true rfl) dX1_copy_74 (fun H locs hP hD hS => ?_)
  have hP : va_P D vwCl (wW_X1_copy ak ad h mm ho mo kn ko Mpg_2 Oway Ostate Mnext Msteps Mwritten Mstuffs_3 Mtwins_4 (va_cpy Oworn Mworn_5 0 0 16) (va_cpy Ocells Mcells 0 0 6) (va_cpy Okept Mkept 0 0 (if (nI kn) < (nI ko) then (nI kn) else (nI ko)).toNatClampNeg) Opg Oway Ostate Onext Osteps Owritten Ostuffs Otwins Oworn Ocells Okept) H := hP
  have hD : va_D A (wW_X1_copy ak ad h mm ho mo kn ko Mpg_2 Oway Ostate Mnext Msteps Mwritten Mstuffs_3 Mtwins_4 (va_cpy Oworn Mworn_5 0 0 16) (va_cpy Ocells Mcells 0 0 6) (va_cpy Okept Mkept 0 0 (if (nI kn) < (nI ko) then (nI kn) else (nI ko)).toNatClampNeg) Opg Oway Ostate Onext Osteps Owritten Ostuffs Otwins Oworn Ocells Okept) := hD
  refine lv_aload_n hx hb dX1_copy_77 rfl (lv_at hl 0 rfl) ?_
  refine lv_aload_n hx hb dX1_copy_78 rfl (lv_at hl 1 rfl) ?_
  refine vt_get (D := D) (ci := 1) (v := .int (Onext)) (C := RX1) (T := TX1) (N := 12) hx hb hts (fun w h => wm_c (wc_X1 w h)) hown hE.1 hP 6 rfl rfl 9 (by decide) tX1_9 (hts (.fieldLink RX1 58 "WornLines$Machine" "next" "I") (wm_c hw_323)) (fun _ h9 => h9) rfl dX1_copy_79 ?_
  refine vt_put (D := D) (ci := 1) (v := .int (Onext)) (ty := .int) (C := RX1) (T := TX1) (N := 12) hx hb hts (fun w h => wm_c (wc_X1 w h)) tyX1 tyX1_ok nmX1 hown hE.1 hP hD hS 0 rfl rfl 9 (by decide) tX1_9 (hts (.fieldLink RX1 58 "WornLines$Machine" "next" "I") (wm_c hw_323)) (fun _ h9 => h9) rfl pf_0 (rfl) rfl (Nat.le_of_ble_eq_true rfl) dX1_copy_82 (fun H locs hP hD hS => ?_)
  have hP : va_P D vwCl (wW_X1_copy ak ad h mm ho mo kn ko Mpg_2 Oway Ostate Onext Msteps Mwritten Mstuffs_3 Mtwins_4 (va_cpy Oworn Mworn_5 0 0 16) (va_cpy Ocells Mcells 0 0 6) (va_cpy Okept Mkept 0 0 (if (nI kn) < (nI ko) then (nI kn) else (nI ko)).toNatClampNeg) Opg Oway Ostate Onext Osteps Owritten Ostuffs Otwins Oworn Ocells Okept) H := hP
  have hD : va_D A (wW_X1_copy ak ad h mm ho mo kn ko Mpg_2 Oway Ostate Onext Msteps Mwritten Mstuffs_3 Mtwins_4 (va_cpy Oworn Mworn_5 0 0 16) (va_cpy Ocells Mcells 0 0 6) (va_cpy Okept Mkept 0 0 (if (nI kn) < (nI ko) then (nI kn) else (nI ko)).toNatClampNeg) Opg Oway Ostate Onext Osteps Owritten Ostuffs Otwins Oworn Ocells Okept) := hD
  refine lv_aload_n hx hb dX1_copy_85 rfl (lv_at hl 0 rfl) ?_
  refine lv_aload_n hx hb dX1_copy_86 rfl (lv_at hl 1 rfl) ?_
  refine vt_get (D := D) (ci := 1) (v := .int (Osteps)) (C := RX1) (T := TX1) (N := 12) hx hb hts (fun w h => wm_c (wc_X1 w h)) hown hE.1 hP 6 rfl rfl 10 (by decide) tX1_10 (hts (.fieldLink RX1 61 "WornLines$Machine" "steps" "I") (wm_c hw_327)) (fun _ h9 => h9) rfl dX1_copy_87 ?_
  refine vt_put (D := D) (ci := 1) (v := .int (Osteps)) (ty := .int) (C := RX1) (T := TX1) (N := 12) hx hb hts (fun w h => wm_c (wc_X1 w h)) tyX1 tyX1_ok nmX1 hown hE.1 hP hD hS 0 rfl rfl 10 (by decide) tX1_10 (hts (.fieldLink RX1 61 "WornLines$Machine" "steps" "I") (wm_c hw_327)) (fun _ h9 => h9) rfl pf_0 (rfl) rfl (Nat.le_of_ble_eq_true rfl) dX1_copy_90 (fun H locs hP hD hS => ?_)
  have hP : va_P D vwCl (wW_X1_copy ak ad h mm ho mo kn ko Mpg_2 Oway Ostate Onext Osteps Mwritten Mstuffs_3 Mtwins_4 (va_cpy Oworn Mworn_5 0 0 16) (va_cpy Ocells Mcells 0 0 6) (va_cpy Okept Mkept 0 0 (if (nI kn) < (nI ko) then (nI kn) else (nI ko)).toNatClampNeg) Opg Oway Ostate Onext Osteps Owritten Ostuffs Otwins Oworn Ocells Okept) H := hP
  have hD : va_D A (wW_X1_copy ak ad h mm ho mo kn ko Mpg_2 Oway Ostate Onext Osteps Mwritten Mstuffs_3 Mtwins_4 (va_cpy Oworn Mworn_5 0 0 16) (va_cpy Ocells Mcells 0 0 6) (va_cpy Okept Mkept 0 0 (if (nI kn) < (nI ko) then (nI kn) else (nI ko)).toNatClampNeg) Opg Oway Ostate Onext Osteps Owritten Ostuffs Otwins Oworn Ocells Okept) := hD
  refine lv_aload_n hx hb dX1_copy_93 rfl (lv_at hl 0 rfl) ?_
  refine lv_aload_n hx hb dX1_copy_94 rfl (lv_at hl 1 rfl) ?_
  refine va_get (D := D) (ci := 1) (v := .int (Owritten)) (C := RX1) (T := TX1) (N := 12) hx hb hts (fun w h => wm_c (wc_X1 w h)) hown hE.1 hP 6 rfl rfl 11 (by decide) (hts (.fieldLink RX1 64 "WornLines$Machine" "written" "I") (wm_c hw_320)) (fun _ h9 => h9) rfl dX1_copy_95 ?_
  refine va_put (D := D) (ci := 1) (v := .int (Owritten)) (ty := .int) (C := RX1) (T := TX1) (N := 12) hx hb hts (fun w h => wm_c (wc_X1 w h)) tyX1 tyX1_ok nmX1 hown hE.1 hP hD hS 0 rfl rfl 11 (by decide) (hts (.fieldLink RX1 64 "WornLines$Machine" "written" "I") (wm_c hw_320)) (fun _ h9 => h9) rfl pf_0 (rfl) rfl (Nat.le_of_ble_eq_true rfl) dX1_copy_98 (fun H locs hP hD hS => ?_)
  have hP : va_P D vwCl (wW_X1_copy ak ad h mm ho mo kn ko Mpg_2 Oway Ostate Onext Osteps Owritten Mstuffs_3 Mtwins_4 (va_cpy Oworn Mworn_5 0 0 16) (va_cpy Ocells Mcells 0 0 6) (va_cpy Okept Mkept 0 0 (if (nI kn) < (nI ko) then (nI kn) else (nI ko)).toNatClampNeg) Opg Oway Ostate Onext Osteps Owritten Ostuffs Otwins Oworn Ocells Okept) H := hP
  have hD : va_D A (wW_X1_copy ak ad h mm ho mo kn ko Mpg_2 Oway Ostate Onext Osteps Owritten Mstuffs_3 Mtwins_4 (va_cpy Oworn Mworn_5 0 0 16) (va_cpy Ocells Mcells 0 0 6) (va_cpy Okept Mkept 0 0 (if (nI kn) < (nI ko) then (nI kn) else (nI ko)).toNatClampNeg) Opg Oway Ostate Onext Osteps Owritten Ostuffs Otwins Oworn Ocells Okept) := hD
  exact kR101 Mpg_2 Oway Ostate Onext Osteps Owritten Mstuffs_3 Mtwins_4 (va_cpy Oworn Mworn_5 0 0 16) (va_cpy Ocells Mcells 0 0 6) (va_cpy Okept Mkept 0 0 (if (nI kn) < (nI ko) then (nI kn) else (nI ko)).toNatClampNeg) _ _ _ hw hP hD hS
set_option maxHeartbeats 4000000 in
set_option maxRecDepth 100000 in
theorem c_X1_copy (l : Launch) (D : va_G) (ak : Nat → ClassId) (ad : Nat → Nat) (sz : Nat) (h : Nat) (mm : Nat → Nat) (ho : Nat) (mo : Nat → Nat) (kn : Nat) (ko : Nat) (Mpg : Nat) (Mway : Int32) (Mstate : Int32) (Mnext : Int32) (Msteps : Int32) (Mwritten : Int32) (Mstuffs : Nat → Int32) (Mtwins : Nat → Int32) (Mworn : Nat → Int32) (Mcells : Nat → Int32) (Mkept : Nat → Int32) (Opg : Nat) (Oway : Int32) (Ostate : Int32) (Onext : Int32) (Osteps : Int32) (Owritten : Int32) (Ostuffs : Nat → Int32) (Otwins : Nat → Int32) (Oworn : Nat → Int32) (Ocells : Nat → Int32) (Okept : Nat → Int32) (Φ : Nat → Int32 → Int32 → Int32 → Int32 → Int32 → (Nat → Int32) → (Nat → Int32) → (Nat → Int32) → (Nat → Int32) → (Nat → Int32) → Prop) (hf : wp_X1_copy Opg Oway Ostate Onext Osteps Owritten Ostuffs Otwins Oworn Ocells Okept kn ko Mpg Mway Mstate Mnext Msteps Mwritten Mstuffs Mtwins Mworn Mcells Mkept Φ) : Met l yX1_copy wsX1_copy ({ frames := 2, cells := 0, slots := 0, locals := 61 }) (cPre D ak ad [.ref h, .ref ho] ((wW_X1_copy ak ad h mm ho mo kn ko Mpg Mway Mstate Mnext Msteps Mwritten Mstuffs Mtwins Mworn Mcells Mkept Opg Oway Ostate Onext Osteps Owritten Ostuffs Otwins Oworn Ocells Okept)) sz) (cV D (S := (Nat) × (Int32) × (Int32) × (Int32) × (Int32) × (Int32) × (Nat → Int32) × (Nat → Int32) × (Nat → Int32) × (Nat → Int32) × (Nat → Int32)) (fun (u : (Nat) × (Int32) × (Int32) × (Int32) × (Int32) × (Int32) × (Nat → Int32) × (Nat → Int32) × (Nat → Int32) × (Nat → Int32) × (Nat → Int32)) => Φ u.1 u.2.1 u.2.2.1 u.2.2.2.1 u.2.2.2.2.1 u.2.2.2.2.2.1 u.2.2.2.2.2.2.1 u.2.2.2.2.2.2.2.1 u.2.2.2.2.2.2.2.2.1 u.2.2.2.2.2.2.2.2.2.1 u.2.2.2.2.2.2.2.2.2.2) (fun u => (wW_X1_copy ak ad h mm ho mo kn ko u.1 u.2.1 u.2.2.1 u.2.2.2.1 u.2.2.2.2.1 u.2.2.2.2.2.1 u.2.2.2.2.2.2.1 u.2.2.2.2.2.2.2.1 u.2.2.2.2.2.2.2.2.1 u.2.2.2.2.2.2.2.2.2.1 u.2.2.2.2.2.2.2.2.2.2 Opg Oway Ostate Onext Osteps Owritten Ostuffs Otwins Oworn Ocells Okept)) ((wW_X1_copy ak ad h mm ho mo kn ko Mpg Mway Mstate Mnext Msteps Mwritten Mstuffs Mtwins Mworn Mcells Mkept Opg Oway Ostate Onext Osteps Owritten Ostuffs Otwins Oworn Ocells Okept)) sz) 0 0 (va_A ((wW_X1_copy ak ad h mm ho mo kn ko Mpg Mway Mstate Mnext Msteps Mwritten Mstuffs Mtwins Mworn Mcells Mkept Opg Oway Ostate Onext Osteps Owritten Ostuffs Otwins Oworn Ocells Okept)) sz) := by
  refine Met.ofW (cc := cX1_copy) (maxL := 2) (ret := none) (by decide) rfl ?_
  intro p e s m args below meth c s₁ B hml hv
  obtain ⟨rfl, hsz, hP, hE, hD0, hT⟩ := hv
  have hx := B.exec
  have hb := B.bytes
  have hr := B.returns
  have hts := atoms_spec (ws := wsX1_copy) B.pre
  have hown : s.vm.findClass RX1 = some m.cls := findClass_of_methodNamed B.named
  have hlocks := B.notSynchronized
  subst hsz
  have hD := hD0.self (sz := s.heap.size)
  generalize hAe : va_A ((wW_X1_copy ak ad h mm ho mo kn ko Mpg Mway Mstate Mnext Msteps Mwritten Mstuffs Mtwins Mworn Mcells Mkept Opg Oway Ostate Onext Osteps Owritten Ostuffs Otwins Oworn Ocells Okept)) s.heap.size = A at hD hT ⊢
  have hA : ∀ q : Nat, s.heap.size ≤ q → A q := fun q h => by rw [← hAe]; exact Or.inr h
  have hS : va_S A s.heap s.heap [] := va_S.rf
  have hl := lv_entry ([.ref h, .ref ho]) (n := 2) (Nat.le_of_ble_eq_true rfl)
  rw [lg_entry_eq]
  generalize (lg_sl ([.ref h, .ref ho]) ++ List.replicate (2 - (lg_sl ([.ref h, .ref ho])).length) Slot.unset).toArray = ls at hl ⊢
  have hl : lv_has ls 2 [(0, .ref h), (1, .ref ho)] := hl
  exact kj_X1_copy_e hx hb hown hts hml hE hT hA (Nat.le_of_ble_eq_true rfl) (Nat.le_of_ble_eq_true rfl) ⟨Nat.le_of_ble_eq_true rfl, Nat.le_of_ble_eq_true rfl⟩ h mm ho mo kn ko Opg Oway Ostate Onext Osteps Owritten Ostuffs Otwins Oworn Ocells Okept Φ (fun Mpg Mway Mstate Mnext Msteps Mwritten Mstuffs Mtwins Mworn Mcells Mkept H locs ls hw hP hD hS => W.vret hx hb hr (fun t ht hW => ⟨⟨(Mpg, Mway, Mstate, Mnext, Msteps, Mwritten, Mstuffs, Mtwins, Mworn, Mcells, Mkept), rfl, hw, by rw [ht]; exact hP, by rw [hAe]; exact hD⟩, by rw [hAe]; exact hS.F ht⟩) hS.2.2 dX1_copy_101) Mpg Mway Mstate Mnext Msteps Mwritten Mstuffs Mtwins Mworn Mcells Mkept _ _ _ hf hP hD hS hl

def wW_X1_takeAsTold (ak : Nat → ClassId) (ad : Nat → Nat) (h : Nat) (mm : Nat → Nat) (pg : Nat) (pa : Nat → Nat) (Mpg : Nat) (Mway : Int32) (Mstate : Int32) (Mnext : Int32) (Msteps : Int32) (Mwritten : Int32) (Mstuffs : Nat → Int32) (Mtwins : Nat → Int32) (Mworn : Nat → Int32) (Pst : Int32) (Pce : Int32) (Pgi : Int32) (Pln : Int32) (PstuffOf : Nat → Int32) : va_W := [(h, .inr (1, xob mm (Mpg) (Mway) (Mstate) (Mnext) (Msteps) (Mwritten))), ((mm 0), .inl (ak 0, 16, .inl (Mstuffs))), ((mm 1), .inl (ak 0, 16, .inl (Mtwins))), ((mm 2), .inl (ak 0, 16, .inl (Mworn))), (pg, .inr (2, pob pa (Pst) (Pce) (Pgi) (Pln))), ((pa 7), .inl (ak 0, 16, .inl (PstuffOf)))]
def wp_X1_takeAsTold (PstuffOf : Nat → Int32) (pg : Nat) (Mpg : Nat) (Mstate : Int32) (Mnext : Int32) (Msteps : Int32) (Mwritten : Int32) (Mstuffs : Nat → Int32) (Mtwins : Nat → Int32) (Mworn : Nat → Int32) (Φ : Nat → Int32 → Int32 → Int32 → Int32 → (Nat → Int32) → (Nat → Int32) → (Nat → Int32) → Prop) : Prop := wp_J7_fill_53178 16 1 Mtwins (fun Ar_2 => wp_J7_fill_53178 16 0 Mworn (fun Ar_5 => Φ pg 0 0 0 0 (va_cpy PstuffOf Mstuffs 0 0 16) Ar_2 Ar_5))
set_option maxHeartbeats 4000000 in
set_option maxRecDepth 100000 in
theorem kj_X1_takeAsTold_e {p : Program} {l : Launch} {e : Env} {R : Room} {s : State} {m : MethodId} {args : Array Value} {below : List Frame} {meth : Method} {c : Code} {cells slots : Nat} {Q : State → Prop} {A : Nat → Prop} {D : va_G} {ak : Nat → ClassId} {ad : Nat → Nat} (hx : p.tables.exec = Jvm.exec) (hb : c.code = cX1_takeAsTold) (hown : s.vm.findClass RX1 = some m.cls) (hts : ∀ w ∈ wsX1_takeAsTold, w.before args s = true) (hml : c.maxLocals = 2) (hE : EV D ak s) (hT : ST D ak ad A s s.heap) (hA : ∀ q, s.heap.size ≤ q → A q) (hRf : 1 ≤ R.frames) (hRl : 40 ≤ R.locals) (hRc : cells ≤ R.cells ∧ slots ≤ R.slots) (h : Nat) (mm : Nat → Nat) (pg : Nat) (pa : Nat → Nat) (Mway : Int32) (Pst : Int32) (Pce : Int32) (Pgi : Int32) (Pln : Int32) (PstuffOf : Nat → Int32)  (Φ : Nat → Int32 → Int32 → Int32 → Int32 → (Nat → Int32) → (Nat → Int32) → (Nat → Int32) → Prop)
    (kR56 : ∀ (Mpg : Nat) (Mstate : Int32) (Mnext : Int32) (Msteps : Int32) (Mwritten : Int32) (Mstuffs : Nat → Int32) (Mtwins : Nat → Int32) (Mworn : Nat → Int32) (H : Heap) (locs : List Loc) (ls : Array Slot), Φ Mpg Mstate Mnext Msteps Mwritten Mstuffs Mtwins Mworn → va_P D vwCl (wW_X1_takeAsTold ak ad h mm pg pa Mpg Mway Mstate Mnext Msteps Mwritten Mstuffs Mtwins Mworn Pst Pce Pgi Pln PstuffOf) H → va_D A (wW_X1_takeAsTold ak ad h mm pg pa Mpg Mway Mstate Mnext Msteps Mwritten Mstuffs Mtwins Mworn Pst Pce Pgi Pln PstuffOf) → va_S A s.heap H locs → W p l e R s m args below meth c H locs cells slots Q (F0 m 56 ls []))
    : ∀ (Mpg : Nat) (Mstate : Int32) (Mnext : Int32) (Msteps : Int32) (Mwritten : Int32) (Mstuffs : Nat → Int32) (Mtwins : Nat → Int32) (Mworn : Nat → Int32) (H : Heap) (locs : List Loc) (ls : Array Slot), wp_X1_takeAsTold PstuffOf pg Mpg Mstate Mnext Msteps Mwritten Mstuffs Mtwins Mworn Φ → va_P D vwCl (wW_X1_takeAsTold ak ad h mm pg pa Mpg Mway Mstate Mnext Msteps Mwritten Mstuffs Mtwins Mworn Pst Pce Pgi Pln PstuffOf) H → va_D A (wW_X1_takeAsTold ak ad h mm pg pa Mpg Mway Mstate Mnext Msteps Mwritten Mstuffs Mtwins Mworn Pst Pce Pgi Pln PstuffOf) → va_S A s.heap H locs → lv_has ls 2 [(0, .ref h), (1, .ref pg)] → W p l e R s m args below meth c H locs cells slots Q (F0 m 0 ls ([])) := by
  intro Mpg Mstate Mnext Msteps Mwritten Mstuffs Mtwins Mworn H locs ls hw hP hD hS hl
  delta wp_X1_takeAsTold at hw
  refine lv_aload_n hx hb dX1_takeAsTold_0 rfl (lv_at hl 0 rfl) ?_
  refine lv_aload_n hx hb dX1_takeAsTold_1 rfl (lv_at hl 1 rfl) ?_
  refine vt_put (D := D) (ci := 1) (v := .ref pg) (ty := .object "WornLines$Programme") (C := RX1) (T := TX1) (N := 12) hx hb hts (fun w h => wm_c (wc_X1 w h)) tyX1 tyX1_ok nmX1 hown hE.1 hP hD hS 0 rfl rfl 0 (by decide) tX1_0 (hts (.fieldLink RX1 34 "WornLines$Machine" "programme" "LWornLines$Programme;") (wm_c hw_301)) (fun _ h9 => h9) rfl pf_9 (rfl) rfl (Nat.le_of_ble_eq_true rfl) dX1_takeAsTold_2 (fun H locs hP hD hS => ?_)
  have hP : va_P D vwCl (wW_X1_takeAsTold ak ad h mm pg pa pg Mway Mstate Mnext Msteps Mwritten Mstuffs Mtwins Mworn Pst Pce Pgi Pln PstuffOf) H := hP
  have hD : va_D A (wW_X1_takeAsTold ak ad h mm pg pa pg Mway Mstate Mnext Msteps Mwritten Mstuffs Mtwins Mworn Pst Pce Pgi Pln PstuffOf) := hD
  refine lv_aload_n hx hb dX1_takeAsTold_5 rfl (lv_at hl 1 rfl) ?_
  refine vt_get (D := D) (ci := 2) (v := .ref (pa 7)) (C := RX2) (T := TX2) (N := 17) hx hb hts (fun w h => wm_c (wc_X2 w h)) hown hE.1 hP 4 rfl rfl 11 (by decide) tX2_11 (hts (.fieldLink RX1 41 "WornLines$Programme" "stuffOf" "[I") (wm_c hw_369)) (fun _ h9 => h9) rfl dX1_takeAsTold_6 ?_
  refine lv_iconst (v := 0) hx hb dX1_takeAsTold_9 (by decide) ?_
  refine lv_aload_n hx hb dX1_takeAsTold_10 rfl (lv_at hl 0 rfl) ?_
  refine vt_get (D := D) (ci := 1) (v := .ref (mm 0)) (C := RX1) (T := TX1) (N := 12) hx hb hts (fun w h => wm_c (wc_X1 w h)) hown hE.1 hP 0 rfl rfl 1 (by decide) tX1_1 (hts (.fieldLink RX1 9 "WornLines$Machine" "stuffs" "[I") (wm_c hw_294)) (fun _ h9 => h9) rfl dX1_takeAsTold_11 ?_
  refine lv_iconst (v := 0) hx hb dX1_takeAsTold_14 (by decide) ?_
  refine lv_bipush (v := 16) hx hb dX1_takeAsTold_15 (by decide) ?_
  refine va_copyi hx hb (by rw [hml]; exact hl.1.symm) hown (hts (.methodLink RX1 46 arraycopyName) (wm_c hw_365)) (hts (.native arraycopyName) (wm_c hw_366)) (hts (.static arraycopyName) (wm_c hw_367)) (hts (.initialized "java/lang/System") (wm_c hw_368)) hE.1 hP hD hS 5 1 0 0 rfl rfl rfl rfl rfl (by decide) (by decide) (by decide) (by decide) (by decide) (fun _ _ => rfl) (Nat.le_trans (Nat.le_of_ble_eq_true rfl) hRf) (Nat.le_trans (Nat.le_of_ble_eq_true rfl) hRl) dX1_takeAsTold_17 (fun H locs hP hD hS => ?_)
  have hP : va_P D vwCl (wW_X1_takeAsTold ak ad h mm pg pa pg Mway Mstate Mnext Msteps Mwritten (va_cpy PstuffOf Mstuffs 0 0 16) Mtwins Mworn Pst Pce Pgi Pln PstuffOf) H := hP
  have hD : va_D A (wW_X1_takeAsTold ak ad h mm pg pa pg Mway Mstate Mnext Msteps Mwritten (va_cpy PstuffOf Mstuffs 0 0 16) Mtwins Mworn Pst Pce Pgi Pln PstuffOf) := hD
  refine lv_aload_n hx hb dX1_takeAsTold_20 rfl (lv_at hl 0 rfl) ?_
  refine vt_get (D := D) (ci := 1) (v := .ref (mm 1)) (C := RX1) (T := TX1) (N := 12) hx hb hts (fun w h => wm_c (wc_X1 w h)) hown hE.1 hP 0 rfl rfl 2 (by decide) tX1_2 (hts (.fieldLink RX1 15 "WornLines$Machine" "twins" "[I") (wm_c hw_295)) (fun _ h9 => h9) rfl dX1_takeAsTold_21 ?_
  refine lv_iconst (v := 1) hx hb dX1_takeAsTold_24 (by decide) ?_
  refine kc_v (wc := (wW_J7_fill_53178 ak ad (mm 1) 16 Mtwins)) (wr := [(h, .inr (1, xob mm (pg) (Mway) (Mstate) (Mnext) (Msteps) (Mwritten))), ((mm 0), .inl (ak 0, 16, .inl (va_cpy PstuffOf Mstuffs 0 0 16))), ((mm 2), .inl (ak 0, 16, .inl (Mworn))), (pg, .inr (2, pob pa (Pst) (Pce) (Pgi) (Pln))), ((pa 7), .inl (ak 0, 16, .inl (PstuffOf)))]) hP hD hS hA [2] [0, 1, 3, 4, 5] rfl rfl (by decide) (by decide) (va_runS (As := [.ref (mm 1), .int (1)]) (rest := []) ⟨hx, hb, hml, hown, hts⟩ (c_J7_fill_53178 l D ak ad _ (mm 1) 16 Mtwins 1 _ hw) (va_cwS 2 hts gX1_takeAsTold_J7_fill_53178 rfl rfl rfl hz_J7_fill_53178 ⟨(Nat.le_trans (Nat.le_of_ble_eq_true rfl) hRf), (Nat.le_trans (Nat.le_of_ble_eq_true rfl) hRl)⟩) (kc_pre (As := [.ref (mm 1), .int (1)]) (wc := (wW_J7_fill_53178 ak ad (mm 1) 16 Mtwins)) hE hT hP hD hS hA [2] (by decide) rfl rfl) rfl rfl hl.1 rfl (lv_room (Nat.le_of_ble_eq_true rfl)) dX1_takeAsTold_25 ⟨hRc.1, hRc.2⟩) (fun Ar_2 H locs hw hP hD hS => ?_)
  try dsimp -zeta only at hw
  have hP : va_P D vwCl (wW_X1_takeAsTold ak ad h mm pg pa pg Mway Mstate Mnext Msteps Mwritten (va_cpy PstuffOf Mstuffs 0 0 16) Ar_2 Mworn Pst Pce Pgi Pln PstuffOf) H := hP.sub [0, 1, 5, 2, 3, 4] rfl
  have hD : va_D A (wW_X1_takeAsTold ak ad h mm pg pa pg Mway Mstate Mnext Msteps Mwritten (va_cpy PstuffOf Mstuffs 0 0 16) Ar_2 Mworn Pst Pce Pgi Pln PstuffOf) := hD.sub [0, 1, 5, 2, 3, 4] (by decide) rfl
  refine lv_aload_n hx hb dX1_takeAsTold_28 rfl (lv_at hl 0 rfl) ?_
  refine vt_get (D := D) (ci := 1) (v := .ref (mm 2)) (C := RX1) (T := TX1) (N := 12) hx hb hts (fun w h => wm_c (wc_X1 w h)) hown hE.1 hP 0 rfl rfl 3 (by decide) tX1_3 (hts (.fieldLink RX1 18 "WornLines$Machine" "worn" "[I") (wm_c hw_296)) (fun _ h9 => h9) rfl dX1_takeAsTold_29 ?_
  refine lv_iconst (v := 0) hx hb dX1_takeAsTold_32 (by decide) ?_
  refine kc_v (wc := (wW_J7_fill_53178 ak ad (mm 2) 16 Mworn)) (wr := [(h, .inr (1, xob mm (pg) (Mway) (Mstate) (Mnext) (Msteps) (Mwritten))), ((mm 0), .inl (ak 0, 16, .inl (va_cpy PstuffOf Mstuffs 0 0 16))), ((mm 1), .inl (ak 0, 16, .inl (Ar_2))), (pg, .inr (2, pob pa (Pst) (Pce) (Pgi) (Pln))), ((pa 7), .inl (ak 0, 16, .inl (PstuffOf)))]) hP hD hS hA [3] [0, 1, 2, 4, 5] rfl rfl (by decide) (by decide) (va_runS (As := [.ref (mm 2), .int (0)]) (rest := []) ⟨hx, hb, hml, hown, hts⟩ (c_J7_fill_53178 l D ak ad _ (mm 2) 16 Mworn 0 _ hw) (va_cwS 2 hts gX1_takeAsTold_J7_fill_53178 rfl rfl rfl hz_J7_fill_53178 ⟨(Nat.le_trans (Nat.le_of_ble_eq_true rfl) hRf), (Nat.le_trans (Nat.le_of_ble_eq_true rfl) hRl)⟩) (kc_pre (As := [.ref (mm 2), .int (0)]) (wc := (wW_J7_fill_53178 ak ad (mm 2) 16 Mworn)) hE hT hP hD hS hA [3] (by decide) rfl rfl) rfl rfl hl.1 rfl (lv_room (Nat.le_of_ble_eq_true rfl)) dX1_takeAsTold_33 ⟨hRc.1, hRc.2⟩) (fun Ar_5 H locs hw hP hD hS => ?_)
  try dsimp -zeta only at hw
  have hP : va_P D vwCl (wW_X1_takeAsTold ak ad h mm pg pa pg Mway Mstate Mnext Msteps Mwritten (va_cpy PstuffOf Mstuffs 0 0 16) Ar_2 Ar_5 Pst Pce Pgi Pln PstuffOf) H := hP.sub [0, 1, 2, 5, 3, 4] rfl
  have hD : va_D A (wW_X1_takeAsTold ak ad h mm pg pa pg Mway Mstate Mnext Msteps Mwritten (va_cpy PstuffOf Mstuffs 0 0 16) Ar_2 Ar_5 Pst Pce Pgi Pln PstuffOf) := hD.sub [0, 1, 2, 5, 3, 4] (by decide) rfl
  refine lv_aload_n hx hb dX1_takeAsTold_36 rfl (lv_at hl 0 rfl) ?_
  refine lv_iconst (v := 0) hx hb dX1_takeAsTold_37 (by decide) ?_
  refine vt_put (D := D) (ci := 1) (v := .int (0)) (ty := .int) (C := RX1) (T := TX1) (N := 12) hx hb hts (fun w h => wm_c (wc_X1 w h)) tyX1 tyX1_ok nmX1 hown hE.1 hP hD hS 0 rfl rfl 8 (by decide) tX1_8 (hts (.fieldLink RX1 31 "WornLines$Machine" "state" "I") (wm_c hw_300)) (fun _ h9 => h9) rfl pf_0 (rfl) rfl (Nat.le_of_ble_eq_true rfl) dX1_takeAsTold_38 (fun H locs hP hD hS => ?_)
  have hP : va_P D vwCl (wW_X1_takeAsTold ak ad h mm pg pa pg Mway 0 Mnext Msteps Mwritten (va_cpy PstuffOf Mstuffs 0 0 16) Ar_2 Ar_5 Pst Pce Pgi Pln PstuffOf) H := hP
  have hD : va_D A (wW_X1_takeAsTold ak ad h mm pg pa pg Mway 0 Mnext Msteps Mwritten (va_cpy PstuffOf Mstuffs 0 0 16) Ar_2 Ar_5 Pst Pce Pgi Pln PstuffOf) := hD
  refine lv_aload_n hx hb dX1_takeAsTold_41 rfl (lv_at hl 0 rfl) ?_
  refine lv_iconst (v := 0) hx hb dX1_takeAsTold_42 (by decide) ?_
  refine vt_put (D := D) (ci := 1) (v := .int (0)) (ty := .int) (C := RX1) (T := TX1) (N := 12) hx hb hts (fun w h => wm_c (wc_X1 w h)) tyX1 tyX1_ok nmX1 hown hE.1 hP hD hS 0 rfl rfl 9 (by decide) tX1_9 (hts (.fieldLink RX1 58 "WornLines$Machine" "next" "I") (wm_c hw_323)) (fun _ h9 => h9) rfl pf_0 (rfl) rfl (Nat.le_of_ble_eq_true rfl) dX1_takeAsTold_43 (fun H locs hP hD hS => ?_)
  have hP : va_P D vwCl (wW_X1_takeAsTold ak ad h mm pg pa pg Mway 0 0 Msteps Mwritten (va_cpy PstuffOf Mstuffs 0 0 16) Ar_2 Ar_5 Pst Pce Pgi Pln PstuffOf) H := hP
  have hD : va_D A (wW_X1_takeAsTold ak ad h mm pg pa pg Mway 0 0 Msteps Mwritten (va_cpy PstuffOf Mstuffs 0 0 16) Ar_2 Ar_5 Pst Pce Pgi Pln PstuffOf) := hD
  refine lv_aload_n hx hb dX1_takeAsTold_46 rfl (lv_at hl 0 rfl) ?_
  refine lv_iconst (v := 0) hx hb dX1_takeAsTold_47 (by decide) ?_
  refine vt_put (D := D) (ci := 1) (v := .int (0)) (ty := .int) (C := RX1) (T := TX1) (N := 12) hx hb hts (fun w h => wm_c (wc_X1 w h)) tyX1 tyX1_ok nmX1 hown hE.1 hP hD hS 0 rfl rfl 10 (by decide) tX1_10 (hts (.fieldLink RX1 61 "WornLines$Machine" "steps" "I") (wm_c hw_327)) (fun _ h9 => h9) rfl pf_0 (rfl) rfl (Nat.le_of_ble_eq_true rfl) dX1_takeAsTold_48 (fun H locs hP hD hS => ?_)
  have hP : va_P D vwCl (wW_X1_takeAsTold ak ad h mm pg pa pg Mway 0 0 0 Mwritten (va_cpy PstuffOf Mstuffs 0 0 16) Ar_2 Ar_5 Pst Pce Pgi Pln PstuffOf) H := hP
  have hD : va_D A (wW_X1_takeAsTold ak ad h mm pg pa pg Mway 0 0 0 Mwritten (va_cpy PstuffOf Mstuffs 0 0 16) Ar_2 Ar_5 Pst Pce Pgi Pln PstuffOf) := hD
  refine lv_aload_n hx hb dX1_takeAsTold_51 rfl (lv_at hl 0 rfl) ?_
  refine lv_iconst (v := 0) hx hb dX1_takeAsTold_52 (by decide) ?_
  refine va_put (D := D) (ci := 1) (v := .int (0)) (ty := .int) (C := RX1) (T := TX1) (N := 12) hx hb hts (fun w h => wm_c (wc_X1 w h)) tyX1 tyX1_ok nmX1 hown hE.1 hP hD hS 0 rfl rfl 11 (by decide) (hts (.fieldLink RX1 64 "WornLines$Machine" "written" "I") (wm_c hw_320)) (fun _ h9 => h9) rfl pf_0 (rfl) rfl (Nat.le_of_ble_eq_true rfl) dX1_takeAsTold_53 (fun H locs hP hD hS => ?_)
  have hP : va_P D vwCl (wW_X1_takeAsTold ak ad h mm pg pa pg Mway 0 0 0 0 (va_cpy PstuffOf Mstuffs 0 0 16) Ar_2 Ar_5 Pst Pce Pgi Pln PstuffOf) H := hP
  have hD : va_D A (wW_X1_takeAsTold ak ad h mm pg pa pg Mway 0 0 0 0 (va_cpy PstuffOf Mstuffs 0 0 16) Ar_2 Ar_5 Pst Pce Pgi Pln PstuffOf) := hD
  exact kR56 pg 0 0 0 0 (va_cpy PstuffOf Mstuffs 0 0 16) Ar_2 Ar_5 _ _ _ hw hP hD hS
set_option maxHeartbeats 4000000 in
set_option maxRecDepth 100000 in
theorem c_X1_takeAsTold (l : Launch) (D : va_G) (ak : Nat → ClassId) (ad : Nat → Nat) (sz : Nat) (h : Nat) (mm : Nat → Nat) (pg : Nat) (pa : Nat → Nat) (Mpg : Nat) (Mway : Int32) (Mstate : Int32) (Mnext : Int32) (Msteps : Int32) (Mwritten : Int32) (Mstuffs : Nat → Int32) (Mtwins : Nat → Int32) (Mworn : Nat → Int32) (Pst : Int32) (Pce : Int32) (Pgi : Int32) (Pln : Int32) (PstuffOf : Nat → Int32) (Φ : Nat → Int32 → Int32 → Int32 → Int32 → (Nat → Int32) → (Nat → Int32) → (Nat → Int32) → Prop) (hf : wp_X1_takeAsTold PstuffOf pg Mpg Mstate Mnext Msteps Mwritten Mstuffs Mtwins Mworn Φ) : Met l yX1_takeAsTold wsX1_takeAsTold ({ frames := 1, cells := 0, slots := 0, locals := 40 }) (cPre D ak ad [.ref h, .ref pg] ((wW_X1_takeAsTold ak ad h mm pg pa Mpg Mway Mstate Mnext Msteps Mwritten Mstuffs Mtwins Mworn Pst Pce Pgi Pln PstuffOf)) sz) (cV D (S := (Nat) × (Int32) × (Int32) × (Int32) × (Int32) × (Nat → Int32) × (Nat → Int32) × (Nat → Int32)) (fun (u : (Nat) × (Int32) × (Int32) × (Int32) × (Int32) × (Nat → Int32) × (Nat → Int32) × (Nat → Int32)) => Φ u.1 u.2.1 u.2.2.1 u.2.2.2.1 u.2.2.2.2.1 u.2.2.2.2.2.1 u.2.2.2.2.2.2.1 u.2.2.2.2.2.2.2) (fun u => (wW_X1_takeAsTold ak ad h mm pg pa u.1 Mway u.2.1 u.2.2.1 u.2.2.2.1 u.2.2.2.2.1 u.2.2.2.2.2.1 u.2.2.2.2.2.2.1 u.2.2.2.2.2.2.2 Pst Pce Pgi Pln PstuffOf)) ((wW_X1_takeAsTold ak ad h mm pg pa Mpg Mway Mstate Mnext Msteps Mwritten Mstuffs Mtwins Mworn Pst Pce Pgi Pln PstuffOf)) sz) 0 0 (va_A ((wW_X1_takeAsTold ak ad h mm pg pa Mpg Mway Mstate Mnext Msteps Mwritten Mstuffs Mtwins Mworn Pst Pce Pgi Pln PstuffOf)) sz) := by
  refine Met.ofW (cc := cX1_takeAsTold) (maxL := 2) (ret := none) (by decide) rfl ?_
  intro p e s m args below meth c s₁ B hml hv
  obtain ⟨rfl, hsz, hP, hE, hD0, hT⟩ := hv
  have hx := B.exec
  have hb := B.bytes
  have hr := B.returns
  have hts := atoms_spec (ws := wsX1_takeAsTold) B.pre
  have hown : s.vm.findClass RX1 = some m.cls := findClass_of_methodNamed B.named
  have hlocks := B.notSynchronized
  subst hsz
  have hD := hD0.self (sz := s.heap.size)
  generalize hAe : va_A ((wW_X1_takeAsTold ak ad h mm pg pa Mpg Mway Mstate Mnext Msteps Mwritten Mstuffs Mtwins Mworn Pst Pce Pgi Pln PstuffOf)) s.heap.size = A at hD hT ⊢
  have hA : ∀ q : Nat, s.heap.size ≤ q → A q := fun q h => by rw [← hAe]; exact Or.inr h
  have hS : va_S A s.heap s.heap [] := va_S.rf
  have hl := lv_entry ([.ref h, .ref pg]) (n := 2) (Nat.le_of_ble_eq_true rfl)
  rw [lg_entry_eq]
  generalize (lg_sl ([.ref h, .ref pg]) ++ List.replicate (2 - (lg_sl ([.ref h, .ref pg])).length) Slot.unset).toArray = ls at hl ⊢
  have hl : lv_has ls 2 [(0, .ref h), (1, .ref pg)] := hl
  exact kj_X1_takeAsTold_e hx hb hown hts hml hE hT hA (Nat.le_of_ble_eq_true rfl) (Nat.le_of_ble_eq_true rfl) ⟨Nat.le_of_ble_eq_true rfl, Nat.le_of_ble_eq_true rfl⟩ h mm pg pa Mway Pst Pce Pgi Pln PstuffOf Φ (fun Mpg Mstate Mnext Msteps Mwritten Mstuffs Mtwins Mworn H locs ls hw hP hD hS => W.vret hx hb hr (fun t ht hW => ⟨⟨(Mpg, Mstate, Mnext, Msteps, Mwritten, Mstuffs, Mtwins, Mworn), rfl, hw, by rw [ht]; exact hP, by rw [hAe]; exact hD⟩, by rw [hAe]; exact hS.F ht⟩) hS.2.2 dX1_takeAsTold_56) Mpg Mstate Mnext Msteps Mwritten Mstuffs Mtwins Mworn _ _ _ hf hP hD hS hl
