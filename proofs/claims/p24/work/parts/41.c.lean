theorem dX1_lineOf_0 : decode cX1_lineOf 0 = .ok (.aload_n 0, 1) := by decide +kernel
theorem dX1_lineOf_1 : decode cX1_lineOf 1 = .ok (.getfield 34, 3) := by decide +kernel
theorem dX1_lineOf_4 : decode cX1_lineOf 4 = .ok (.getfield 92, 3) := by decide +kernel
theorem dX1_lineOf_7 : decode cX1_lineOf 7 = .ok (.ifCond .ne 5, 3) := by decide +kernel
theorem dX1_lineOf_12 : decode cX1_lineOf 12 = .ok (.iload_n 1, 1) := by decide +kernel
theorem dX1_lineOf_13 : decode cX1_lineOf 13 = .ok (.aload_n 0, 1) := by decide +kernel
theorem dX1_lineOf_14 : decode cX1_lineOf 14 = .ok (.getfield 34, 3) := by decide +kernel
theorem dX1_lineOf_17 : decode cX1_lineOf 17 = .ok (.getfield 92, 3) := by decide +kernel
theorem dX1_lineOf_20 : decode cX1_lineOf 20 = .ok (.irem, 1) := by decide +kernel
theorem dX1_lineOf_21 : decode cX1_lineOf 21 = .ok (.istore_n 2, 1) := by decide +kernel
theorem dX1_lineOf_22 : decode cX1_lineOf 22 = .ok (.iload_n 2, 1) := by decide +kernel
theorem dX1_lineOf_23 : decode cX1_lineOf 23 = .ok (.ifCond .ge 15, 3) := by decide +kernel
theorem dX1_lineOf_38 : decode cX1_lineOf 38 = .ok (.iload_n 2, 1) := by decide +kernel
theorem dX1_lineOf_26 : decode cX1_lineOf 26 = .ok (.iload_n 2, 1) := by decide +kernel
theorem dX1_lineOf_27 : decode cX1_lineOf 27 = .ok (.aload_n 0, 1) := by decide +kernel
theorem dX1_lineOf_28 : decode cX1_lineOf 28 = .ok (.getfield 34, 3) := by decide +kernel
theorem dX1_lineOf_31 : decode cX1_lineOf 31 = .ok (.getfield 92, 3) := by decide +kernel
theorem dX1_lineOf_34 : decode cX1_lineOf 34 = .ok (.iadd, 1) := by decide +kernel
theorem dX1_lineOf_35 : decode cX1_lineOf 35 = .ok (.goto 4, 3) := by decide +kernel
theorem dX1_lineOf_10 : decode cX1_lineOf 10 = .ok (.iconst 0, 1) := by decide +kernel
theorem dX1_lineOf_11 : decode cX1_lineOf 11 = .ok (.ireturn, 1) := by decide +kernel
theorem dX1_lineOf_39 : decode cX1_lineOf 39 = .ok (.ireturn, 1) := by decide +kernel
theorem dX1_write_0 : decode cX1_write 0 = .ok (.aload_n 0, 1) := by decide +kernel
theorem dX1_write_1 : decode cX1_write 1 = .ok (.getfield 64, 3) := by decide +kernel
theorem dX1_write_4 : decode cX1_write 4 = .ok (.aload_n 0, 1) := by decide +kernel
theorem dX1_write_5 : decode cX1_write 5 = .ok (.getfield 38, 3) := by decide +kernel
theorem dX1_write_8 : decode cX1_write 8 = .ok (.arraylength, 1) := by decide +kernel
theorem dX1_write_9 : decode cX1_write 9 = .ok (.if_icmp .ge 13, 3) := by decide +kernel
theorem dX1_write_22 : decode cX1_write 22 = .ok (.aload_n 0, 1) := by decide +kernel
theorem dX1_write_23 : decode cX1_write 23 = .ok (.dup, 1) := by decide +kernel
theorem dX1_write_24 : decode cX1_write 24 = .ok (.getfield 64, 3) := by decide +kernel
theorem dX1_write_27 : decode cX1_write 27 = .ok (.iconst 1, 1) := by decide +kernel
theorem dX1_write_28 : decode cX1_write 28 = .ok (.iadd, 1) := by decide +kernel
theorem dX1_write_29 : decode cX1_write 29 = .ok (.putfield 64, 3) := by decide +kernel
theorem dX1_write_12 : decode cX1_write 12 = .ok (.aload_n 0, 1) := by decide +kernel
theorem dX1_write_13 : decode cX1_write 13 = .ok (.getfield 38, 3) := by decide +kernel
theorem dX1_write_16 : decode cX1_write 16 = .ok (.aload_n 0, 1) := by decide +kernel
theorem dX1_write_17 : decode cX1_write 17 = .ok (.getfield 64, 3) := by decide +kernel
theorem dX1_write_20 : decode cX1_write 20 = .ok (.iload_n 1, 1) := by decide +kernel
theorem dX1_write_21 : decode cX1_write 21 = .ok (.iastore, 1) := by decide +kernel
theorem dX1_write_32 : decode cX1_write 32 = .ok (.return_, 1) := by decide +kernel
theorem dX1_mend_0 : decode cX1_mend 0 = .ok (.iload_n 2, 1) := by decide +kernel
theorem dX1_mend_1 : decode cX1_mend 1 = .ok (.ifCond .le 21, 3) := by decide +kernel
theorem dX1_mend_4 : decode cX1_mend 4 = .ok (.aload_n 0, 1) := by decide +kernel
theorem dX1_mend_5 : decode cX1_mend 5 = .ok (.getfield 18, 3) := by decide +kernel
theorem dX1_mend_8 : decode cX1_mend 8 = .ok (.iload_n 1, 1) := by decide +kernel
theorem dX1_mend_9 : decode cX1_mend 9 = .ok (.iconst 0, 1) := by decide +kernel
theorem dX1_mend_10 : decode cX1_mend 10 = .ok (.aload_n 0, 1) := by decide +kernel
theorem dX1_mend_11 : decode cX1_mend 11 = .ok (.getfield 18, 3) := by decide +kernel
theorem dX1_mend_14 : decode cX1_mend 14 = .ok (.iload_n 1, 1) := by decide +kernel
theorem dX1_mend_15 : decode cX1_mend 15 = .ok (.iaload, 1) := by decide +kernel
theorem dX1_mend_16 : decode cX1_mend 16 = .ok (.iload_n 2, 1) := by decide +kernel
theorem dX1_mend_17 : decode cX1_mend 17 = .ok (.isub, 1) := by decide +kernel
theorem dX1_mend_18 : decode cX1_mend 18 = .ok (.invokestatic 135, 3) := by decide +kernel
theorem dX1_mend_21 : decode cX1_mend 21 = .ok (.iastore, 1) := by decide +kernel
theorem dX1_mend_22 : decode cX1_mend 22 = .ok (.return_, 1) := by decide +kernel
theorem dX1_joined_0 : decode cX1_joined 0 = .ok (.iload_n 0, 1) := by decide +kernel
theorem dX1_joined_1 : decode cX1_joined 1 = .ok (.tableswitch 97 4 9 #[39, 53, 67, 78, 89, 93], 39) := by decide +kernel
theorem dX1_joined_40 : decode cX1_joined 40 = .ok (.iload_n 1, 1) := by decide +kernel
theorem dX1_joined_41 : decode cX1_joined 41 = .ok (.ifCond .eq 11, 3) := by decide +kernel
theorem dX1_joined_52 : decode cX1_joined 52 = .ok (.iconst 0, 1) := by decide +kernel
theorem dX1_joined_44 : decode cX1_joined 44 = .ok (.iload_n 2, 1) := by decide +kernel
theorem dX1_joined_45 : decode cX1_joined 45 = .ok (.ifCond .eq 7, 3) := by decide +kernel
theorem dX1_joined_48 : decode cX1_joined 48 = .ok (.iconst 1, 1) := by decide +kernel
theorem dX1_joined_49 : decode cX1_joined 49 = .ok (.goto 4, 3) := by decide +kernel
theorem dX1_joined_54 : decode cX1_joined 54 = .ok (.iload_n 1, 1) := by decide +kernel
theorem dX1_joined_55 : decode cX1_joined 55 = .ok (.ifCond .ne 7, 3) := by decide +kernel
theorem dX1_joined_62 : decode cX1_joined 62 = .ok (.iconst 1, 1) := by decide +kernel
theorem dX1_joined_63 : decode cX1_joined 63 = .ok (.goto 4, 3) := by decide +kernel
theorem dX1_joined_58 : decode cX1_joined 58 = .ok (.iload_n 2, 1) := by decide +kernel
theorem dX1_joined_59 : decode cX1_joined 59 = .ok (.ifCond .eq 7, 3) := by decide +kernel
theorem dX1_joined_66 : decode cX1_joined 66 = .ok (.iconst 0, 1) := by decide +kernel
theorem dX1_joined_68 : decode cX1_joined 68 = .ok (.iload_n 1, 1) := by decide +kernel
theorem dX1_joined_69 : decode cX1_joined 69 = .ok (.iload_n 2, 1) := by decide +kernel
theorem dX1_joined_70 : decode cX1_joined 70 = .ok (.if_icmp .ge 7, 3) := by decide +kernel
theorem dX1_joined_77 : decode cX1_joined 77 = .ok (.iconst 0, 1) := by decide +kernel
theorem dX1_joined_73 : decode cX1_joined 73 = .ok (.iconst 1, 1) := by decide +kernel
theorem dX1_joined_74 : decode cX1_joined 74 = .ok (.goto 4, 3) := by decide +kernel
theorem dX1_joined_79 : decode cX1_joined 79 = .ok (.iload_n 1, 1) := by decide +kernel
theorem dX1_joined_80 : decode cX1_joined 80 = .ok (.iload_n 2, 1) := by decide +kernel
theorem dX1_joined_81 : decode cX1_joined 81 = .ok (.if_icmp .ne 7, 3) := by decide +kernel
theorem dX1_joined_88 : decode cX1_joined 88 = .ok (.iconst 0, 1) := by decide +kernel
theorem dX1_joined_84 : decode cX1_joined 84 = .ok (.iconst 1, 1) := by decide +kernel
theorem dX1_joined_85 : decode cX1_joined 85 = .ok (.goto 4, 3) := by decide +kernel
theorem dX1_joined_90 : decode cX1_joined 90 = .ok (.iload_n 1, 1) := by decide +kernel
theorem dX1_joined_91 : decode cX1_joined 91 = .ok (.iload_n 2, 1) := by decide +kernel
theorem dX1_joined_92 : decode cX1_joined 92 = .ok (.iadd, 1) := by decide +kernel
theorem dX1_joined_94 : decode cX1_joined 94 = .ok (.iload_n 1, 1) := by decide +kernel
theorem dX1_joined_95 : decode cX1_joined 95 = .ok (.iload_n 2, 1) := by decide +kernel
theorem dX1_joined_96 : decode cX1_joined 96 = .ok (.isub, 1) := by decide +kernel
theorem dX1_joined_98 : decode cX1_joined 98 = .ok (.iload_n 1, 1) := by decide +kernel
theorem dX1_joined_99 : decode cX1_joined 99 = .ok (.iload_n 2, 1) := by decide +kernel
theorem dX1_joined_100 : decode cX1_joined 100 = .ok (.imul, 1) := by decide +kernel
theorem dX1_joined_53 : decode cX1_joined 53 = .ok (.ireturn, 1) := by decide +kernel
theorem dX1_joined_67 : decode cX1_joined 67 = .ok (.ireturn, 1) := by decide +kernel
theorem dX1_joined_78 : decode cX1_joined 78 = .ok (.ireturn, 1) := by decide +kernel
theorem dX1_joined_89 : decode cX1_joined 89 = .ok (.ireturn, 1) := by decide +kernel
theorem dX1_joined_93 : decode cX1_joined 93 = .ok (.ireturn, 1) := by decide +kernel
theorem dX1_joined_97 : decode cX1_joined 97 = .ok (.ireturn, 1) := by decide +kernel
theorem dX1_joined_101 : decode cX1_joined 101 = .ok (.ireturn, 1) := by decide +kernel
theorem dX1_bearing_0 : decode cX1_bearing 0 = .ok (.aload_n 0, 1) := by decide +kernel
theorem dX1_bearing_1 : decode cX1_bearing 1 = .ok (.getfield 34, 3) := by decide +kernel
theorem dX1_bearing_4 : decode cX1_bearing 4 = .ok (.getfield 82, 3) := by decide +kernel
theorem dX1_bearing_7 : decode cX1_bearing 7 = .ok (.aload_n 0, 1) := by decide +kernel
theorem dX1_bearing_8 : decode cX1_bearing 8 = .ok (.getfield 9, 3) := by decide +kernel
theorem dX1_bearing_11 : decode cX1_bearing 11 = .ok (.iload_n 1, 1) := by decide +kernel
theorem dX1_bearing_12 : decode cX1_bearing 12 = .ok (.iaload, 1) := by decide +kernel
theorem dX1_bearing_13 : decode cX1_bearing 13 = .ok (.iaload, 1) := by decide +kernel
theorem dX1_bearing_14 : decode cX1_bearing 14 = .ok (.aload_n 0, 1) := by decide +kernel
theorem dX1_bearing_15 : decode cX1_bearing 15 = .ok (.getfield 15, 3) := by decide +kernel
theorem dX1_bearing_18 : decode cX1_bearing 18 = .ok (.iload_n 1, 1) := by decide +kernel
theorem dX1_bearing_19 : decode cX1_bearing 19 = .ok (.iaload, 1) := by decide +kernel
theorem dX1_bearing_20 : decode cX1_bearing 20 = .ok (.imul, 1) := by decide +kernel
theorem dX1_bearing_21 : decode cX1_bearing 21 = .ok (.ireturn, 1) := by decide +kernel
theorem dX1_isEndless_0 : decode cX1_isEndless 0 = .ok (.aload_n 0, 1) := by decide +kernel
theorem dX1_isEndless_1 : decode cX1_isEndless 1 = .ok (.getfield 31, 3) := by decide +kernel
theorem dX1_isEndless_4 : decode cX1_isEndless 4 = .ok (.iconst 1, 1) := by decide +kernel
theorem dX1_isEndless_5 : decode cX1_isEndless 5 = .ok (.if_icmp .ne 7, 3) := by decide +kernel
theorem dX1_isEndless_12 : decode cX1_isEndless 12 = .ok (.iconst 0, 1) := by decide +kernel
theorem dX1_isEndless_8 : decode cX1_isEndless 8 = .ok (.iconst 1, 1) := by decide +kernel
theorem dX1_isEndless_9 : decode cX1_isEndless 9 = .ok (.goto 4, 3) := by decide +kernel
theorem dX1_isEndless_13 : decode cX1_isEndless 13 = .ok (.ireturn, 1) := by decide +kernel
theorem dX1_fallIfHole_0 : decode cX1_fallIfHole 0 = .ok (.aload_n 0, 1) := by decide +kernel
theorem dX1_fallIfHole_1 : decode cX1_fallIfHole 1 = .ok (.getfield 31, 3) := by decide +kernel
theorem dX1_fallIfHole_4 : decode cX1_fallIfHole 4 = .ok (.iconst 1, 1) := by decide +kernel
theorem dX1_fallIfHole_5 : decode cX1_fallIfHole 5 = .ok (.if_icmp .ne 52, 3) := by decide +kernel
theorem dX1_fallIfHole_8 : decode cX1_fallIfHole 8 = .ok (.aload_n 0, 1) := by decide +kernel
theorem dX1_fallIfHole_9 : decode cX1_fallIfHole 9 = .ok (.getfield 27, 3) := by decide +kernel
theorem dX1_fallIfHole_12 : decode cX1_fallIfHole 12 = .ok (.ifCond .ne 45, 3) := by decide +kernel
theorem dX1_fallIfHole_15 : decode cX1_fallIfHole 15 = .ok (.aload_n 0, 1) := by decide +kernel
theorem dX1_fallIfHole_16 : decode cX1_fallIfHole 16 = .ok (.getfield 58, 3) := by decide +kernel
theorem dX1_fallIfHole_19 : decode cX1_fallIfHole 19 = .ok (.aload_n 0, 1) := by decide +kernel
theorem dX1_fallIfHole_20 : decode cX1_fallIfHole 20 = .ok (.getfield 34, 3) := by decide +kernel
theorem dX1_fallIfHole_23 : decode cX1_fallIfHole 23 = .ok (.getfield 92, 3) := by decide +kernel
set_option maxRecDepth 20000 in
theorem ggX1_fallIfHole_X7_within : GoodIn wsX1_fallIfHole wsX7_within := gup gc_X7_within
set_option maxRecDepth 20000 in
theorem gX1_fallIfHole_X7_within_n95 : GoodIn wsX1_fallIfHole (wsX7_within) := ggX1_fallIfHole_X7_within
theorem dX1_fallIfHole_26 : decode cX1_fallIfHole 26 = .ok (.invokestatic 95, 3) := by decide +kernel
theorem dX1_fallIfHole_29 : decode cX1_fallIfHole 29 = .ok (.ifCond .eq 28, 3) := by decide +kernel
theorem dX1_fallIfHole_32 : decode cX1_fallIfHole 32 = .ok (.aload_n 0, 1) := by decide +kernel
theorem dX1_fallIfHole_33 : decode cX1_fallIfHole 33 = .ok (.getfield 18, 3) := by decide +kernel
theorem dX1_fallIfHole_36 : decode cX1_fallIfHole 36 = .ok (.aload_n 0, 1) := by decide +kernel
theorem dX1_fallIfHole_37 : decode cX1_fallIfHole 37 = .ok (.getfield 58, 3) := by decide +kernel
theorem dX1_fallIfHole_40 : decode cX1_fallIfHole 40 = .ok (.iaload, 1) := by decide +kernel
theorem dX1_fallIfHole_41 : decode cX1_fallIfHole 41 = .ok (.aload_n 0, 1) := by decide +kernel
theorem dX1_fallIfHole_42 : decode cX1_fallIfHole 42 = .ok (.aload_n 0, 1) := by decide +kernel
theorem dX1_fallIfHole_43 : decode cX1_fallIfHole 43 = .ok (.getfield 58, 3) := by decide +kernel
set_option maxRecDepth 20000 in
theorem ggX1_fallIfHole_X1_bearing : GoodIn wsX1_fallIfHole wsX1_bearing := gup gc_X1_bearing
set_option maxRecDepth 20000 in
theorem gX1_fallIfHole_X1_bearing : GoodIn wsX1_fallIfHole (wsV RX1 103 RX1 yX1_bearing wsX1_bearing) := gup (glV hw_328 hw_329 hw_330 hw_331 gc_X1_bearing)
theorem dX1_fallIfHole_46 : decode cX1_fallIfHole 46 = .ok (.invokevirtual 103, 3) := by decide +kernel
theorem dX1_fallIfHole_49 : decode cX1_fallIfHole 49 = .ok (.if_icmp .lt 8, 3) := by decide +kernel
theorem dX1_fallIfHole_52 : decode cX1_fallIfHole 52 = .ok (.aload_n 0, 1) := by decide +kernel
theorem dX1_fallIfHole_53 : decode cX1_fallIfHole 53 = .ok (.iconst 3, 1) := by decide +kernel
theorem dX1_fallIfHole_54 : decode cX1_fallIfHole 54 = .ok (.putfield 31, 3) := by decide +kernel
theorem dX1_fallIfHole_57 : decode cX1_fallIfHole 57 = .ok (.return_, 1) := by decide +kernel
theorem dX1_start_2 : decode cX1_start 2 = .ok (.iload_n 2, 1) := by decide +kernel
theorem dX1_start_3 : decode cX1_start 3 = .ok (.aload_n 0, 1) := by decide +kernel
theorem dX1_start_4 : decode cX1_start 4 = .ok (.getfield 34, 3) := by decide +kernel
theorem dX1_start_7 : decode cX1_start 7 = .ok (.getfield 77, 3) := by decide +kernel
theorem dX1_start_10 : decode cX1_start 10 = .ok (.if_icmp .ge 24, 3) := by decide +kernel
theorem dX1_start_34 : decode cX1_start 34 = .ok (.aload_n 0, 1) := by decide +kernel
theorem dX1_start_35 : decode cX1_start 35 = .ok (.iconst 1, 1) := by decide +kernel
theorem dX1_start_36 : decode cX1_start 36 = .ok (.putfield 31, 3) := by decide +kernel
theorem dX1_start_39 : decode cX1_start 39 = .ok (.aload_n 0, 1) := by decide +kernel
theorem dX1_start_40 : decode cX1_start 40 = .ok (.iconst 0, 1) := by decide +kernel
theorem dX1_start_41 : decode cX1_start 41 = .ok (.putfield 58, 3) := by decide +kernel
theorem dX1_start_44 : decode cX1_start 44 = .ok (.aload_n 0, 1) := by decide +kernel
theorem dX1_start_45 : decode cX1_start 45 = .ok (.iconst 0, 1) := by decide +kernel
theorem dX1_start_46 : decode cX1_start 46 = .ok (.putfield 61, 3) := by decide +kernel
theorem dX1_start_49 : decode cX1_start 49 = .ok (.aload_n 0, 1) := by decide +kernel
theorem dX1_start_50 : decode cX1_start 50 = .ok (.iconst 0, 1) := by decide +kernel
theorem dX1_start_51 : decode cX1_start 51 = .ok (.putfield 64, 3) := by decide +kernel
theorem dX1_start_13 : decode cX1_start 13 = .ok (.aload_n 0, 1) := by decide +kernel
theorem dX1_start_14 : decode cX1_start 14 = .ok (.getfield 21, 3) := by decide +kernel
theorem dX1_start_17 : decode cX1_start 17 = .ok (.iload_n 2, 1) := by decide +kernel
theorem dX1_start_18 : decode cX1_start 18 = .ok (.aload_n 0, 1) := by decide +kernel
theorem dX1_start_19 : decode cX1_start 19 = .ok (.getfield 34, 3) := by decide +kernel
theorem dX1_start_22 : decode cX1_start 22 = .ok (.iload_n 1, 1) := by decide +kernel
theorem dX1_start_23 : decode cX1_start 23 = .ok (.iload_n 2, 1) := by decide +kernel
set_option maxRecDepth 20000 in
theorem ggX1_start_X2_atFirst : GoodIn wsX1_start wsX2_atFirst := gup gc_X2_atFirst
set_option maxRecDepth 20000 in
theorem gX1_start_X2_atFirst : GoodIn wsX1_start (wsV RX1 79 RX2 yX2_atFirst wsX2_atFirst) := gup (glV hw_332 hw_333 hw_334 hw_318 gc_X2_atFirst)
theorem dX1_start_24 : decode cX1_start 24 = .ok (.invokevirtual 79, 3) := by decide +kernel
theorem dX1_start_27 : decode cX1_start 27 = .ok (.iastore, 1) := by decide +kernel
theorem dX1_start_28 : decode cX1_start 28 = .ok (.iinc 2 1, 3) := by decide +kernel
theorem dX1_start_31 : decode cX1_start 31 = .ok (.goto (-29), 3) := by decide +kernel
theorem dX1_start_0 : decode cX1_start 0 = .ok (.iconst 0, 1) := by decide +kernel
theorem dX1_start_1 : decode cX1_start 1 = .ok (.istore_n 2, 1) := by decide +kernel
theorem dX1_start_54 : decode cX1_start 54 = .ok (.return_, 1) := by decide +kernel
def wW_X1_lineOf (ak : Nat → ClassId) (ad : Nat → Nat) (h : Nat) (mm : Nat → Nat) (pg : Nat) (Mway : Int32) (Mstate : Int32) (Mnext : Int32) (Msteps : Int32) (Mwritten : Int32) : va_W := [(h, .inr (1, xob mm (pg) (Mway) (Mstate) (Mnext) (Msteps) (Mwritten)))]
def wK_X1_lineOf (ak : Nat → ClassId) (ad : Nat → Nat) (pg : Nat) (pa : Nat → Nat) (Pst : Int32) (Pce : Int32) (Pgi : Int32) (Pln : Int32) : va_W := [(pg, .inr (2, pob pa (Pst) (Pce) (Pgi) (Pln)))]
def wp_X1_lineOf (Pln : Int32) (xv : Int32)  (Φ : Int32 → Prop) : Prop := (¬ Pln = 0 → ¬ Pln = 0 ∧ (0 ≤ (xv - xv / Pln * Pln) → Φ (xv - xv / Pln * Pln) ) ∧ (¬ 0 ≤ (xv - xv / Pln * Pln) → Φ ((xv - xv / Pln * Pln) + Pln) )) ∧ (Pln = 0 → Φ 0 )
set_option maxHeartbeats 4000000 in
set_option maxRecDepth 100000 in
theorem kj_X1_lineOf_e {p : Program} {l : Launch} {e : Env} {R : Room} {s : State} {m : MethodId} {args : Array Value} {below : List Frame} {meth : Method} {c : Code} {cells slots : Nat} {Q : State → Prop} {A : Nat → Prop} {D : va_G} {ak : Nat → ClassId} {ad : Nat → Nat} (hx : p.tables.exec = Jvm.exec) (hb : c.code = cX1_lineOf) (hown : s.vm.findClass RX1 = some m.cls) (hts : ∀ w ∈ wsX1_lineOf, w.before args s = true) (hml : c.maxLocals = 3) (hE : EV D ak s) (hT : ST D ak ad A s s.heap) (hA : ∀ q, s.heap.size ≤ q → A q) (h : Nat) (mm : Nat → Nat) (pg : Nat) (pa : Nat → Nat) (Mway : Int32) (Mstate : Int32) (Mnext : Int32) (Msteps : Int32) (Mwritten : Int32) (Pst : Int32) (Pce : Int32) (Pgi : Int32) (Pln : Int32) (xv : Int32) (hKT : KT D A (wK_X1_lineOf ak ad pg pa Pst Pce Pgi Pln) s.heap)  (Φ : Int32 → Prop)
    (kR11 : ∀ (r : Int32)  (H : Heap) (locs : List Loc) (ls : Array Slot), Φ r  → va_P D vwCl (wW_X1_lineOf ak ad h mm pg Mway Mstate Mnext Msteps Mwritten) H → va_D A (wW_X1_lineOf ak ad h mm pg Mway Mstate Mnext Msteps Mwritten) → va_S A s.heap H locs → W p l e R s m args below meth c H locs cells slots Q (F0 m 11 ls [.int r]))
    (kR39 : ∀ (r : Int32)  (H : Heap) (locs : List Loc) (ls : Array Slot), Φ r  → va_P D vwCl (wW_X1_lineOf ak ad h mm pg Mway Mstate Mnext Msteps Mwritten) H → va_D A (wW_X1_lineOf ak ad h mm pg Mway Mstate Mnext Msteps Mwritten) → va_S A s.heap H locs → W p l e R s m args below meth c H locs cells slots Q (F0 m 39 ls [.int r]))
    : ∀  (H : Heap) (locs : List Loc) (ls : Array Slot), wp_X1_lineOf Pln xv  Φ → va_P D vwCl (wW_X1_lineOf ak ad h mm pg Mway Mstate Mnext Msteps Mwritten) H → va_D A (wW_X1_lineOf ak ad h mm pg Mway Mstate Mnext Msteps Mwritten) → va_S A s.heap H locs → lv_has ls 3 [(0, .ref h), (1, .int (xv))] → W p l e R s m args below meth c H locs cells slots Q (F0 m 0 ls ([])) := by
  have hCW : ∀ {H : Heap} {locs : List Loc}, va_S A s.heap H locs → va_P D vwCl (wK_X1_lineOf ak ad pg pa Pst Pce Pgi Pln) H := fun hS => (hKT.kept hS.2.1).1
  intro  H locs ls hw hP hD hS hl
  delta wp_X1_lineOf at hw
  refine lv_aload_n hx hb dX1_lineOf_0 rfl (lv_at hl 0 rfl) ?_
  refine vt_get (D := D) (ci := 1) (v := .ref pg) (C := RX1) (T := TX1) (N := 12) hx hb hts (fun w h => wm_c (wc_X1 w h)) hown hE.1 hP 0 rfl rfl 0 (by decide) tX1_0 (hts (.fieldLink RX1 34 "WornLines$Machine" "programme" "LWornLines$Programme;") (wm_c hw_301)) (fun _ h9 => h9) rfl dX1_lineOf_1 ?_
  refine vt_get (D := D) (ci := 2) (v := .int (Pln)) (C := RX2) (T := TX2) (N := 17) hx hb hts (fun w h => wm_c (wc_X2 w h)) hown hE.1 (hCW hS) 0 rfl rfl 9 (by decide) tX2_9 (hts (.fieldLink RX1 92 "WornLines$Programme" "lines" "I") (wm_c hw_319)) (fun _ h9 => h9) rfl dX1_lineOf_4 ?_
  refine lv_if_ne (tgt := 12) hx hb dX1_lineOf_7 (by decide) (fun c_1 => ?_) (fun c_1 => ?_)
  · replace hw := hw.1 c_1
    refine lv_iload_n hx hb dX1_lineOf_12 rfl (lv_at hl 1 rfl) ?_
    refine lv_aload_n hx hb dX1_lineOf_13 rfl (lv_at hl 0 rfl) ?_
    refine vt_get (D := D) (ci := 1) (v := .ref pg) (C := RX1) (T := TX1) (N := 12) hx hb hts (fun w h => wm_c (wc_X1 w h)) hown hE.1 hP 0 rfl rfl 0 (by decide) tX1_0 (hts (.fieldLink RX1 34 "WornLines$Machine" "programme" "LWornLines$Programme;") (wm_c hw_301)) (fun _ h9 => h9) rfl dX1_lineOf_14 ?_
    refine vt_get (D := D) (ci := 2) (v := .int (Pln)) (C := RX2) (T := TX2) (N := 17) hx hb hts (fun w h => wm_c (wc_X2 w h)) hown hE.1 (hCW hS) 0 rfl rfl 9 (by decide) tX2_9 (hts (.fieldLink RX1 92 "WornLines$Programme" "lines" "I") (wm_c hw_319)) (fun _ h9 => h9) rfl dX1_lineOf_17 ?_
    obtain ⟨h_2, hw⟩ := hw
    refine lv_irem hx hb dX1_lineOf_20 (h_2) ?_
    refine lv_istore_n (lv' := [(2, .int (xv - xv / Pln * Pln)), (0, .ref h), (1, .int (xv))]) hx hb dX1_lineOf_21 rfl hl (by decide) rfl (fun ls hl => ?_)
    refine lv_iload_n hx hb dX1_lineOf_22 rfl (lv_at hl 0 rfl) ?_
    refine lv_if_ge (tgt := 38) hx hb dX1_lineOf_23 (by decide) (fun c_3 => ?_) (fun c_3 => ?_)
    · replace hw := hw.1 c_3
      refine lv_iload_n hx hb dX1_lineOf_38 rfl (lv_at hl 0 rfl) ?_
      exact kR39 (xv - xv / Pln * Pln)  _ _ _ hw hP hD hS
    · replace hw := hw.2 c_3
      refine lv_iload_n hx hb dX1_lineOf_26 rfl (lv_at hl 0 rfl) ?_
      refine lv_aload_n hx hb dX1_lineOf_27 rfl (lv_at hl 1 rfl) ?_
      refine vt_get (D := D) (ci := 1) (v := .ref pg) (C := RX1) (T := TX1) (N := 12) hx hb hts (fun w h => wm_c (wc_X1 w h)) hown hE.1 hP 0 rfl rfl 0 (by decide) tX1_0 (hts (.fieldLink RX1 34 "WornLines$Machine" "programme" "LWornLines$Programme;") (wm_c hw_301)) (fun _ h9 => h9) rfl dX1_lineOf_28 ?_
      refine vt_get (D := D) (ci := 2) (v := .int (Pln)) (C := RX2) (T := TX2) (N := 17) hx hb hts (fun w h => wm_c (wc_X2 w h)) hown hE.1 (hCW hS) 0 rfl rfl 9 (by decide) tX2_9 (hts (.fieldLink RX1 92 "WornLines$Programme" "lines" "I") (wm_c hw_319)) (fun _ h9 => h9) rfl dX1_lineOf_31 ?_
      refine lv_iadd hx hb dX1_lineOf_34 ?_
      refine lv_goto (tgt := 39) hx hb dX1_lineOf_35 (by decide) ?_
      exact kR39 ((xv - xv / Pln * Pln) + Pln)  _ _ _ hw hP hD hS
  · replace hw := hw.2 c_1
    refine lv_iconst (v := 0) hx hb dX1_lineOf_10 (by decide) ?_
    exact kR11 0  _ _ _ hw hP hD hS
set_option maxHeartbeats 4000000 in
set_option maxRecDepth 100000 in
theorem c_X1_lineOf (l : Launch) (D : va_G) (ak : Nat → ClassId) (ad : Nat → Nat) (sz : Nat) (h : Nat) (mm : Nat → Nat) (pg : Nat) (pa : Nat → Nat) (Mway : Int32) (Mstate : Int32) (Mnext : Int32) (Msteps : Int32) (Mwritten : Int32) (Pst : Int32) (Pce : Int32) (Pgi : Int32) (Pln : Int32) (xv : Int32) (Φ : Int32 → Prop) (hf : wp_X1_lineOf Pln xv Φ) : Met l yX1_lineOf wsX1_lineOf ({ frames := 0, cells := 0, slots := 0, locals := 0 }) (cPreK D ak ad [.ref h, .int (xv)] ((wW_X1_lineOf ak ad h mm pg Mway Mstate Mnext Msteps Mwritten)) sz ((wK_X1_lineOf ak ad pg pa Pst Pce Pgi Pln))) (cI D (S := Unit) (fun (r : Int32) (u : Unit) => Φ r ) (fun u => (wW_X1_lineOf ak ad h mm pg Mway Mstate Mnext Msteps Mwritten)) ((wW_X1_lineOf ak ad h mm pg Mway Mstate Mnext Msteps Mwritten)) sz) 0 0 (va_A ((wW_X1_lineOf ak ad h mm pg Mway Mstate Mnext Msteps Mwritten)) sz) := by
  refine Met.ofW (cc := cX1_lineOf) (maxL := 3) (ret := (some .int)) (by decide) rfl ?_
  intro p e s m args below meth c s₁ B hml hv
  obtain ⟨⟨rfl, hsz, hP, hE, hD0, hT⟩, hKT⟩ := hv
  have hx := B.exec
  have hb := B.bytes
  have hr := B.returns
  have hts := atoms_spec (ws := wsX1_lineOf) B.pre
  have hown : s.vm.findClass RX1 = some m.cls := findClass_of_methodNamed B.named
  have hlocks := B.notSynchronized
  subst hsz
  have hD := hD0.self (sz := s.heap.size)
  generalize hAe : va_A ((wW_X1_lineOf ak ad h mm pg Mway Mstate Mnext Msteps Mwritten)) s.heap.size = A at hD hT hKT ⊢
  have hA : ∀ q : Nat, s.heap.size ≤ q → A q := fun q h => by rw [← hAe]; exact Or.inr h
  have hS : va_S A s.heap s.heap [] := va_S.rf
  have hl := lv_entry ([.ref h, .int (xv)]) (n := 3) (Nat.le_of_ble_eq_true rfl)
  rw [lg_entry_eq]
  generalize (lg_sl ([.ref h, .int (xv)]) ++ List.replicate (3 - (lg_sl ([.ref h, .int (xv)])).length) Slot.unset).toArray = ls at hl ⊢
  have hl : lv_has ls 3 [(0, .ref h), (1, .int (xv))] := hl
  exact kj_X1_lineOf_e hx hb hown hts hml hE hT hA h mm pg pa Mway Mstate Mnext Msteps Mwritten Pst Pce Pgi Pln xv hKT Φ (fun r  H locs ls hw hP hD hS => W.iret (v := r) hx hb hr (fun t ht hW => ⟨⟨r, (), rfl, hw, by rw [ht]; exact hP, by rw [hAe]; exact hD⟩, by rw [hAe]; exact hS.F ht⟩) hS.2.2 dX1_lineOf_11) (fun r  H locs ls hw hP hD hS => W.iret (v := r) hx hb hr (fun t ht hW => ⟨⟨r, (), rfl, hw, by rw [ht]; exact hP, by rw [hAe]; exact hD⟩, by rw [hAe]; exact hS.F ht⟩) hS.2.2 dX1_lineOf_39)  _ _ _ hf hP hD hS hl

def wW_X1_write (ak : Nat → ClassId) (ad : Nat → Nat) (h : Nat) (mm : Nat → Nat) (pg : Nat) (kn : Nat) (Mway : Int32) (Mstate : Int32) (Mnext : Int32) (Msteps : Int32) (Mwritten : Int32) (Mkept : Nat → Int32) : va_W := [(h, .inr (1, xob mm (pg) (Mway) (Mstate) (Mnext) (Msteps) (Mwritten))), ((mm 4), .inl (ak 0, kn, .inl (Mkept)))]
def wp_X1_write (kn : Nat) (xv : Int32) (Mwritten : Int32) (Mkept : Nat → Int32) (Φ : Int32 → (Nat → Int32) → Prop) : Prop := ((nI kn) ≤ Mwritten → Φ (Mwritten + 1) Mkept) ∧ (¬ (nI kn) ≤ Mwritten → vp_in Mwritten kn ∧ Φ (Mwritten + 1) (upd Mkept (Mwritten).toNatClampNeg xv))
set_option maxHeartbeats 4000000 in
set_option maxRecDepth 100000 in
theorem kj_X1_write_e {p : Program} {l : Launch} {e : Env} {R : Room} {s : State} {m : MethodId} {args : Array Value} {below : List Frame} {meth : Method} {c : Code} {cells slots : Nat} {Q : State → Prop} {A : Nat → Prop} {D : va_G} {ak : Nat → ClassId} {ad : Nat → Nat} (hx : p.tables.exec = Jvm.exec) (hb : c.code = cX1_write) (hown : s.vm.findClass RX1 = some m.cls) (hts : ∀ w ∈ wsX1_write, w.before args s = true) (hml : c.maxLocals = 2) (hE : EV D ak s) (hT : ST D ak ad A s s.heap) (hA : ∀ q, s.heap.size ≤ q → A q) (h : Nat) (mm : Nat → Nat) (pg : Nat) (kn : Nat) (Mway : Int32) (Mstate : Int32) (Mnext : Int32) (Msteps : Int32) (xv : Int32)  (Φ : Int32 → (Nat → Int32) → Prop)
    (kR32 : ∀ (Mwritten : Int32) (Mkept : Nat → Int32) (H : Heap) (locs : List Loc) (ls : Array Slot), Φ Mwritten Mkept → va_P D vwCl (wW_X1_write ak ad h mm pg kn Mway Mstate Mnext Msteps Mwritten Mkept) H → va_D A (wW_X1_write ak ad h mm pg kn Mway Mstate Mnext Msteps Mwritten Mkept) → va_S A s.heap H locs → W p l e R s m args below meth c H locs cells slots Q (F0 m 32 ls []))
    : ∀ (Mwritten : Int32) (Mkept : Nat → Int32) (H : Heap) (locs : List Loc) (ls : Array Slot), wp_X1_write kn xv Mwritten Mkept Φ → va_P D vwCl (wW_X1_write ak ad h mm pg kn Mway Mstate Mnext Msteps Mwritten Mkept) H → va_D A (wW_X1_write ak ad h mm pg kn Mway Mstate Mnext Msteps Mwritten Mkept) → va_S A s.heap H locs → lv_has ls 2 [(0, .ref h), (1, .int (xv))] → W p l e R s m args below meth c H locs cells slots Q (F0 m 0 ls ([])) := by
  intro Mwritten Mkept H locs ls hw hP hD hS hl
  delta wp_X1_write at hw
  refine lv_aload_n hx hb dX1_write_0 rfl (lv_at hl 0 rfl) ?_
  refine va_get (D := D) (ci := 1) (v := .int (Mwritten)) (C := RX1) (T := TX1) (N := 12) hx hb hts (fun w h => wm_c (wc_X1 w h)) hown hE.1 hP 0 rfl rfl 11 (by decide) (hts (.fieldLink RX1 64 "WornLines$Machine" "written" "I") (wm_c hw_320)) (fun _ h9 => h9) rfl dX1_write_1 ?_
  refine lv_aload_n hx hb dX1_write_4 rfl (lv_at hl 0 rfl) ?_
  refine vt_get (D := D) (ci := 1) (v := .ref (mm 4)) (C := RX1) (T := TX1) (N := 12) hx hb hts (fun w h => wm_c (wc_X1 w h)) hown hE.1 hP 0 rfl rfl 5 (by decide) tX1_5 (hts (.fieldLink RX1 38 "WornLines$Machine" "kept" "[I") (wm_c hw_302)) (fun _ h9 => h9) rfl dX1_write_5 ?_
  refine va_alen hx hb hE.1 hP 1 0 rfl rfl (v := nI kn) rfl dX1_write_8 ?_
  refine lv_icmp_ge (tgt := 22) hx hb dX1_write_9 (by decide) (fun c_1 => ?_) (fun c_1 => ?_)
  · replace hw := hw.1 c_1
    refine lv_aload_n hx hb dX1_write_22 rfl (lv_at hl 0 rfl) ?_
    refine lv_dup hx hb dX1_write_23 rfl ?_
    refine va_get (D := D) (ci := 1) (v := .int (Mwritten)) (C := RX1) (T := TX1) (N := 12) hx hb hts (fun w h => wm_c (wc_X1 w h)) hown hE.1 hP 0 rfl rfl 11 (by decide) (hts (.fieldLink RX1 64 "WornLines$Machine" "written" "I") (wm_c hw_320)) (fun _ h9 => h9) rfl dX1_write_24 ?_
    refine lv_iconst (v := 1) hx hb dX1_write_27 (by decide) ?_
    refine lv_iadd hx hb dX1_write_28 ?_
    refine va_put (D := D) (ci := 1) (v := .int (Mwritten + 1)) (ty := .int) (C := RX1) (T := TX1) (N := 12) hx hb hts (fun w h => wm_c (wc_X1 w h)) tyX1 tyX1_ok nmX1 hown hE.1 hP hD hS 0 rfl rfl 11 (by decide) (hts (.fieldLink RX1 64 "WornLines$Machine" "written" "I") (wm_c hw_320)) (fun _ h9 => h9) rfl pf_0 (rfl) rfl (Nat.le_of_ble_eq_true rfl) dX1_write_29 (fun H locs hP hD hS => ?_)
    have hP : va_P D vwCl (wW_X1_write ak ad h mm pg kn Mway Mstate Mnext Msteps (Mwritten + 1) Mkept) H := hP
    have hD : va_D A (wW_X1_write ak ad h mm pg kn Mway Mstate Mnext Msteps (Mwritten + 1) Mkept) := hD
    exact kR32 (Mwritten + 1) Mkept _ _ _ hw hP hD hS
  · replace hw := hw.2 c_1
    refine lv_aload_n hx hb dX1_write_12 rfl (lv_at hl 0 rfl) ?_
    refine vt_get (D := D) (ci := 1) (v := .ref (mm 4)) (C := RX1) (T := TX1) (N := 12) hx hb hts (fun w h => wm_c (wc_X1 w h)) hown hE.1 hP 0 rfl rfl 5 (by decide) tX1_5 (hts (.fieldLink RX1 38 "WornLines$Machine" "kept" "[I") (wm_c hw_302)) (fun _ h9 => h9) rfl dX1_write_13 ?_
    refine lv_aload_n hx hb dX1_write_16 rfl (lv_at hl 0 rfl) ?_
    refine va_get (D := D) (ci := 1) (v := .int (Mwritten)) (C := RX1) (T := TX1) (N := 12) hx hb hts (fun w h => wm_c (wc_X1 w h)) hown hE.1 hP 0 rfl rfl 11 (by decide) (hts (.fieldLink RX1 64 "WornLines$Machine" "written" "I") (wm_c hw_320)) (fun _ h9 => h9) rfl dX1_write_17 ?_
    refine lv_iload_n hx hb dX1_write_20 rfl (lv_at hl 1 rfl) ?_
    obtain ⟨h_2, hw⟩ := hw
    refine va_iast hx hb hE.1 hP hD hS 1 0 rfl rfl (h_2) dX1_write_21 (fun H locs hP hD hS => ?_)
    have hP : va_P D vwCl (wW_X1_write ak ad h mm pg kn Mway Mstate Mnext Msteps Mwritten (upd Mkept (Mwritten).toNatClampNeg xv)) H := hP
    have hD : va_D A (wW_X1_write ak ad h mm pg kn Mway Mstate Mnext Msteps Mwritten (upd Mkept (Mwritten).toNatClampNeg xv)) := hD
    refine lv_aload_n hx hb dX1_write_22 rfl (lv_at hl 0 rfl) ?_
    refine lv_dup hx hb dX1_write_23 rfl ?_
    refine va_get (D := D) (ci := 1) (v := .int (Mwritten)) (C := RX1) (T := TX1) (N := 12) hx hb hts (fun w h => wm_c (wc_X1 w h)) hown hE.1 hP 0 rfl rfl 11 (by decide) (hts (.fieldLink RX1 64 "WornLines$Machine" "written" "I") (wm_c hw_320)) (fun _ h9 => h9) rfl dX1_write_24 ?_
    refine lv_iconst (v := 1) hx hb dX1_write_27 (by decide) ?_
    refine lv_iadd hx hb dX1_write_28 ?_
    refine va_put (D := D) (ci := 1) (v := .int (Mwritten + 1)) (ty := .int) (C := RX1) (T := TX1) (N := 12) hx hb hts (fun w h => wm_c (wc_X1 w h)) tyX1 tyX1_ok nmX1 hown hE.1 hP hD hS 0 rfl rfl 11 (by decide) (hts (.fieldLink RX1 64 "WornLines$Machine" "written" "I") (wm_c hw_320)) (fun _ h9 => h9) rfl pf_0 (rfl) rfl (Nat.le_of_ble_eq_true rfl) dX1_write_29 (fun H locs hP hD hS => ?_)
    have hP : va_P D vwCl (wW_X1_write ak ad h mm pg kn Mway Mstate Mnext Msteps (Mwritten + 1) (upd Mkept (Mwritten).toNatClampNeg xv)) H := hP
    have hD : va_D A (wW_X1_write ak ad h mm pg kn Mway Mstate Mnext Msteps (Mwritten + 1) (upd Mkept (Mwritten).toNatClampNeg xv)) := hD
    exact kR32 (Mwritten + 1) (upd Mkept (Mwritten).toNatClampNeg xv) _ _ _ hw hP hD hS
set_option maxHeartbeats 4000000 in
set_option maxRecDepth 100000 in
theorem c_X1_write (l : Launch) (D : va_G) (ak : Nat → ClassId) (ad : Nat → Nat) (sz : Nat) (h : Nat) (mm : Nat → Nat) (pg : Nat) (kn : Nat) (Mway : Int32) (Mstate : Int32) (Mnext : Int32) (Msteps : Int32) (Mwritten : Int32) (Mkept : Nat → Int32) (xv : Int32) (Φ : Int32 → (Nat → Int32) → Prop) (hf : wp_X1_write kn xv Mwritten Mkept Φ) : Met l yX1_write wsX1_write ({ frames := 0, cells := 0, slots := 0, locals := 0 }) (cPre D ak ad [.ref h, .int (xv)] ((wW_X1_write ak ad h mm pg kn Mway Mstate Mnext Msteps Mwritten Mkept)) sz) (cV D (S := (Int32) × (Nat → Int32)) (fun (u : (Int32) × (Nat → Int32)) => Φ u.1 u.2) (fun u => (wW_X1_write ak ad h mm pg kn Mway Mstate Mnext Msteps u.1 u.2)) ((wW_X1_write ak ad h mm pg kn Mway Mstate Mnext Msteps Mwritten Mkept)) sz) 0 0 (va_A ((wW_X1_write ak ad h mm pg kn Mway Mstate Mnext Msteps Mwritten Mkept)) sz) := by
  refine Met.ofW (cc := cX1_write) (maxL := 2) (ret := none) (by decide) rfl ?_
  intro p e s m args below meth c s₁ B hml hv
  obtain ⟨rfl, hsz, hP, hE, hD0, hT⟩ := hv
  have hx := B.exec
  have hb := B.bytes
  have hr := B.returns
  have hts := atoms_spec (ws := wsX1_write) B.pre
  have hown : s.vm.findClass RX1 = some m.cls := findClass_of_methodNamed B.named
  have hlocks := B.notSynchronized
  subst hsz
  have hD := hD0.self (sz := s.heap.size)
  generalize hAe : va_A ((wW_X1_write ak ad h mm pg kn Mway Mstate Mnext Msteps Mwritten Mkept)) s.heap.size = A at hD hT ⊢
  have hA : ∀ q : Nat, s.heap.size ≤ q → A q := fun q h => by rw [← hAe]; exact Or.inr h
  have hS : va_S A s.heap s.heap [] := va_S.rf
  have hl := lv_entry ([.ref h, .int (xv)]) (n := 2) (Nat.le_of_ble_eq_true rfl)
  rw [lg_entry_eq]
  generalize (lg_sl ([.ref h, .int (xv)]) ++ List.replicate (2 - (lg_sl ([.ref h, .int (xv)])).length) Slot.unset).toArray = ls at hl ⊢
  have hl : lv_has ls 2 [(0, .ref h), (1, .int (xv))] := hl
  exact kj_X1_write_e hx hb hown hts hml hE hT hA h mm pg kn Mway Mstate Mnext Msteps xv Φ (fun Mwritten Mkept H locs ls hw hP hD hS => W.vret hx hb hr (fun t ht hW => ⟨⟨(Mwritten, Mkept), rfl, hw, by rw [ht]; exact hP, by rw [hAe]; exact hD⟩, by rw [hAe]; exact hS.F ht⟩) hS.2.2 dX1_write_32) Mwritten Mkept _ _ _ hf hP hD hS hl

def wW_X1_mend (ak : Nat → ClassId) (ad : Nat → Nat) (h : Nat) (mm : Nat → Nat) (pg : Nat) (Mway : Int32) (Mstate : Int32) (Mnext : Int32) (Msteps : Int32) (Mwritten : Int32) (Mworn : Nat → Int32) : va_W := [(h, .inr (1, xob mm (pg) (Mway) (Mstate) (Mnext) (Msteps) (Mwritten))), ((mm 2), .inl (ak 0, 16, .inl (Mworn)))]
def wp_X1_mend (xl : Int32) (xb : Int32) (Mworn : Nat → Int32) (Φ : (Nat → Int32) → Prop) : Prop := (xb ≤ 0 → Φ Mworn) ∧ (¬ xb ≤ 0 → vp_in xl 16 ∧ vp_in xl 16 ∧ Φ (upd Mworn (xl).toNatClampNeg ((if (0 : Int32) < ((Mworn (xl).toNatClampNeg) - xb) then ((Mworn (xl).toNatClampNeg) - xb) else (0 : Int32)))))
set_option maxHeartbeats 4000000 in
set_option maxRecDepth 100000 in
theorem kj_X1_mend_e {p : Program} {l : Launch} {e : Env} {R : Room} {s : State} {m : MethodId} {args : Array Value} {below : List Frame} {meth : Method} {c : Code} {cells slots : Nat} {Q : State → Prop} {A : Nat → Prop} {D : va_G} {ak : Nat → ClassId} {ad : Nat → Nat} (hx : p.tables.exec = Jvm.exec) (hb : c.code = cX1_mend) (hown : s.vm.findClass RX1 = some m.cls) (hts : ∀ w ∈ wsX1_mend, w.before args s = true) (hml : c.maxLocals = 3) (hE : EV D ak s) (hT : ST D ak ad A s s.heap) (hA : ∀ q, s.heap.size ≤ q → A q) (hRf : 1 ≤ R.frames) (hRl : 15 ≤ R.locals) (hRc : cells ≤ R.cells ∧ slots ≤ R.slots) (h : Nat) (mm : Nat → Nat) (pg : Nat) (Mway : Int32) (Mstate : Int32) (Mnext : Int32) (Msteps : Int32) (Mwritten : Int32) (xl : Int32) (xb : Int32)  (Φ : (Nat → Int32) → Prop)
    (kR22 : ∀ (Mworn : Nat → Int32) (H : Heap) (locs : List Loc) (ls : Array Slot), Φ Mworn → va_P D vwCl (wW_X1_mend ak ad h mm pg Mway Mstate Mnext Msteps Mwritten Mworn) H → va_D A (wW_X1_mend ak ad h mm pg Mway Mstate Mnext Msteps Mwritten Mworn) → va_S A s.heap H locs → W p l e R s m args below meth c H locs cells slots Q (F0 m 22 ls []))
    : ∀ (Mworn : Nat → Int32) (H : Heap) (locs : List Loc) (ls : Array Slot), wp_X1_mend xl xb Mworn Φ → va_P D vwCl (wW_X1_mend ak ad h mm pg Mway Mstate Mnext Msteps Mwritten Mworn) H → va_D A (wW_X1_mend ak ad h mm pg Mway Mstate Mnext Msteps Mwritten Mworn) → va_S A s.heap H locs → lv_has ls 3 [(0, .ref h), (1, .int (xl)), (2, .int (xb))] → W p l e R s m args below meth c H locs cells slots Q (F0 m 0 ls ([])) := by
  intro Mworn H locs ls hw hP hD hS hl
  delta wp_X1_mend at hw
  refine lv_iload_n hx hb dX1_mend_0 rfl (lv_at hl 2 rfl) ?_
  refine lv_if_le (tgt := 22) hx hb dX1_mend_1 (by decide) (fun c_1 => ?_) (fun c_1 => ?_)
  · replace hw := hw.1 c_1
    exact kR22 Mworn _ _ _ hw hP hD hS
  · replace hw := hw.2 c_1
    refine lv_aload_n hx hb dX1_mend_4 rfl (lv_at hl 0 rfl) ?_
    refine vt_get (D := D) (ci := 1) (v := .ref (mm 2)) (C := RX1) (T := TX1) (N := 12) hx hb hts (fun w h => wm_c (wc_X1 w h)) hown hE.1 hP 0 rfl rfl 3 (by decide) tX1_3 (hts (.fieldLink RX1 18 "WornLines$Machine" "worn" "[I") (wm_c hw_296)) (fun _ h9 => h9) rfl dX1_mend_5 ?_
    refine lv_iload_n hx hb dX1_mend_8 rfl (lv_at hl 1 rfl) ?_
    refine lv_iconst (v := 0) hx hb dX1_mend_9 (by decide) ?_
    refine lv_aload_n hx hb dX1_mend_10 rfl (lv_at hl 0 rfl) ?_
    refine vt_get (D := D) (ci := 1) (v := .ref (mm 2)) (C := RX1) (T := TX1) (N := 12) hx hb hts (fun w h => wm_c (wc_X1 w h)) hown hE.1 hP 0 rfl rfl 3 (by decide) tX1_3 (hts (.fieldLink RX1 18 "WornLines$Machine" "worn" "[I") (wm_c hw_296)) (fun _ h9 => h9) rfl dX1_mend_11 ?_
    refine lv_iload_n hx hb dX1_mend_14 rfl (lv_at hl 1 rfl) ?_
    obtain ⟨h_2, hw⟩ := hw
    refine va_iald hx hb hE.1 hP 1 0 rfl rfl (h_2) dX1_mend_15 ?_
    refine lv_iload_n hx hb dX1_mend_16 rfl (lv_at hl 2 rfl) ?_
    refine lv_isub hx hb dX1_mend_17 ?_
    refine va_mmax hx hb (by rw [hml]; exact hl.1.symm) hown (hts (.methodLink RX1 135 Lib.Math.max.name) (wm_c hw_321)) (hts (.static Lib.Math.max.name) (wm_c hw_183)) (hts (.initialized "java/lang/Math") (wm_c hw_184)) (hts (.code Lib.Math.max.name Lib.Math.max.code 2 (some .int)) (wm_c hw_185)) (Nat.le_trans (Nat.le_of_ble_eq_true rfl) hRf) (Nat.le_trans (Nat.le_of_ble_eq_true rfl) hRl) hRc.1 hRc.2 dX1_mend_18 ?_
    obtain ⟨h_3, hw⟩ := hw
    refine va_iast hx hb hE.1 hP hD hS 1 0 rfl rfl (h_3) dX1_mend_21 (fun H locs hP hD hS => ?_)
    have hP : va_P D vwCl (wW_X1_mend ak ad h mm pg Mway Mstate Mnext Msteps Mwritten (upd Mworn (xl).toNatClampNeg ((if (0 : Int32) < ((Mworn (xl).toNatClampNeg) - xb) then ((Mworn (xl).toNatClampNeg) - xb) else (0 : Int32))))) H := hP
    have hD : va_D A (wW_X1_mend ak ad h mm pg Mway Mstate Mnext Msteps Mwritten (upd Mworn (xl).toNatClampNeg ((if (0 : Int32) < ((Mworn (xl).toNatClampNeg) - xb) then ((Mworn (xl).toNatClampNeg) - xb) else (0 : Int32))))) := hD
    exact kR22 (upd Mworn (xl).toNatClampNeg ((if (0 : Int32) < ((Mworn (xl).toNatClampNeg) - xb) then ((Mworn (xl).toNatClampNeg) - xb) else (0 : Int32)))) _ _ _ hw hP hD hS
set_option maxHeartbeats 4000000 in
set_option maxRecDepth 100000 in
theorem c_X1_mend (l : Launch) (D : va_G) (ak : Nat → ClassId) (ad : Nat → Nat) (sz : Nat) (h : Nat) (mm : Nat → Nat) (pg : Nat) (Mway : Int32) (Mstate : Int32) (Mnext : Int32) (Msteps : Int32) (Mwritten : Int32) (Mworn : Nat → Int32) (xl : Int32) (xb : Int32) (Φ : (Nat → Int32) → Prop) (hf : wp_X1_mend xl xb Mworn Φ) : Met l yX1_mend wsX1_mend ({ frames := 1, cells := 0, slots := 0, locals := 15 }) (cPre D ak ad [.ref h, .int (xl), .int (xb)] ((wW_X1_mend ak ad h mm pg Mway Mstate Mnext Msteps Mwritten Mworn)) sz) (cV D (S := (Nat → Int32)) (fun (u : (Nat → Int32)) => Φ u) (fun u => (wW_X1_mend ak ad h mm pg Mway Mstate Mnext Msteps Mwritten u)) ((wW_X1_mend ak ad h mm pg Mway Mstate Mnext Msteps Mwritten Mworn)) sz) 0 0 (va_A ((wW_X1_mend ak ad h mm pg Mway Mstate Mnext Msteps Mwritten Mworn)) sz) := by
  refine Met.ofW (cc := cX1_mend) (maxL := 3) (ret := none) (by decide) rfl ?_
  intro p e s m args below meth c s₁ B hml hv
  obtain ⟨rfl, hsz, hP, hE, hD0, hT⟩ := hv
  have hx := B.exec
  have hb := B.bytes
  have hr := B.returns
  have hts := atoms_spec (ws := wsX1_mend) B.pre
  have hown : s.vm.findClass RX1 = some m.cls := findClass_of_methodNamed B.named
  have hlocks := B.notSynchronized
  subst hsz
  have hD := hD0.self (sz := s.heap.size)
  generalize hAe : va_A ((wW_X1_mend ak ad h mm pg Mway Mstate Mnext Msteps Mwritten Mworn)) s.heap.size = A at hD hT ⊢
  have hA : ∀ q : Nat, s.heap.size ≤ q → A q := fun q h => by rw [← hAe]; exact Or.inr h
  have hS : va_S A s.heap s.heap [] := va_S.rf
  have hl := lv_entry ([.ref h, .int (xl), .int (xb)]) (n := 3) (Nat.le_of_ble_eq_true rfl)
  rw [lg_entry_eq]
  generalize (lg_sl ([.ref h, .int (xl), .int (xb)]) ++ List.replicate (3 - (lg_sl ([.ref h, .int (xl), .int (xb)])).length) Slot.unset).toArray = ls at hl ⊢
  have hl : lv_has ls 3 [(0, .ref h), (1, .int (xl)), (2, .int (xb))] := hl
  exact kj_X1_mend_e hx hb hown hts hml hE hT hA (Nat.le_of_ble_eq_true rfl) (Nat.le_of_ble_eq_true rfl) ⟨Nat.le_of_ble_eq_true rfl, Nat.le_of_ble_eq_true rfl⟩ h mm pg Mway Mstate Mnext Msteps Mwritten xl xb Φ (fun Mworn H locs ls hw hP hD hS => W.vret hx hb hr (fun t ht hW => ⟨⟨Mworn, rfl, hw, by rw [ht]; exact hP, by rw [hAe]; exact hD⟩, by rw [hAe]; exact hS.F ht⟩) hS.2.2 dX1_mend_22) Mworn _ _ _ hf hP hD hS hl

def wp_X1_joined (xo : Int32) (xa : Int32) (xb : Int32)  (Φ : Int32 → Prop) : Prop := (xo = 4 → (xa = 0 → Φ 0 ) ∧ (¬ xa = 0 → (xb = 0 → Φ 0 ) ∧ (¬ xb = 0 → Φ 1 ))) ∧ (xo = 5 → (¬ xa = 0 → Φ 1 ) ∧ (xa = 0 → (xb = 0 → Φ 0 ) ∧ (¬ xb = 0 → Φ 1 ))) ∧ (xo = 6 → (xb ≤ xa → Φ 0 ) ∧ (¬ xb ≤ xa → Φ 1 )) ∧ (xo = 7 → (¬ xa = xb → Φ 0 ) ∧ (xa = xb → Φ 1 )) ∧ (xo = 8 → Φ (xa + xb) ) ∧ (xo = 9 → Φ (xa - xb) ) ∧ (((xo : Int32).toInt < 4 ∨ 9 < (xo : Int32).toInt) → Φ (xa * xb) )
set_option maxHeartbeats 4000000 in
set_option maxRecDepth 100000 in
theorem kj_X1_joined_e {p : Program} {l : Launch} {e : Env} {R : Room} {s : State} {m : MethodId} {args : Array Value} {below : List Frame} {meth : Method} {c : Code} {cells slots : Nat} {Q : State → Prop} {A : Nat → Prop} {D : va_G} {ak : Nat → ClassId} {ad : Nat → Nat} (hx : p.tables.exec = Jvm.exec) (hb : c.code = cX1_joined) (hown : s.vm.findClass RX1 = some m.cls) (hts : ∀ w ∈ wsX1_joined, w.before args s = true) (hml : c.maxLocals = 3) (hE : EV D ak s) (hT : ST D ak ad A s s.heap) (hA : ∀ q, s.heap.size ≤ q → A q) (xo : Int32) (xa : Int32) (xb : Int32)  (Φ : Int32 → Prop)
    (kR53 : ∀ (r : Int32)  (H : Heap) (locs : List Loc) (ls : Array Slot), Φ r  → va_P D vwCl [] H → va_D A [] → va_S A s.heap H locs → W p l e R s m args below meth c H locs cells slots Q (F0 m 53 ls [.int r]))
    (kR67 : ∀ (r : Int32)  (H : Heap) (locs : List Loc) (ls : Array Slot), Φ r  → va_P D vwCl [] H → va_D A [] → va_S A s.heap H locs → W p l e R s m args below meth c H locs cells slots Q (F0 m 67 ls [.int r]))
    (kR78 : ∀ (r : Int32)  (H : Heap) (locs : List Loc) (ls : Array Slot), Φ r  → va_P D vwCl [] H → va_D A [] → va_S A s.heap H locs → W p l e R s m args below meth c H locs cells slots Q (F0 m 78 ls [.int r]))
    (kR89 : ∀ (r : Int32)  (H : Heap) (locs : List Loc) (ls : Array Slot), Φ r  → va_P D vwCl [] H → va_D A [] → va_S A s.heap H locs → W p l e R s m args below meth c H locs cells slots Q (F0 m 89 ls [.int r]))
    (kR93 : ∀ (r : Int32)  (H : Heap) (locs : List Loc) (ls : Array Slot), Φ r  → va_P D vwCl [] H → va_D A [] → va_S A s.heap H locs → W p l e R s m args below meth c H locs cells slots Q (F0 m 93 ls [.int r]))
    (kR97 : ∀ (r : Int32)  (H : Heap) (locs : List Loc) (ls : Array Slot), Φ r  → va_P D vwCl [] H → va_D A [] → va_S A s.heap H locs → W p l e R s m args below meth c H locs cells slots Q (F0 m 97 ls [.int r]))
    (kR101 : ∀ (r : Int32)  (H : Heap) (locs : List Loc) (ls : Array Slot), Φ r  → va_P D vwCl [] H → va_D A [] → va_S A s.heap H locs → W p l e R s m args below meth c H locs cells slots Q (F0 m 101 ls [.int r]))
    : ∀  (H : Heap) (locs : List Loc) (ls : Array Slot), wp_X1_joined xo xa xb  Φ → va_P D vwCl [] H → va_D A [] → va_S A s.heap H locs → lv_has ls 3 [(0, .int (xo)), (1, .int (xa)), (2, .int (xb))] → W p l e R s m args below meth c H locs cells slots Q (F0 m 0 ls ([])) := by
  intro  H locs ls hw hP hD hS hl
  delta wp_X1_joined at hw
  refine lv_iload_n hx hb dX1_joined_0 rfl (lv_at hl 0 rfl) ?_
  by_cases k_1_4 : xo = (4 : Int32)
  · refine lv_tableIn (tgt := 40) hx hb dX1_joined_1 (by rw [k_1_4]; decide) (by rw [k_1_4]; decide) (off := 39) (by rw [k_1_4]; rfl) (by decide) ?_
    replace hw := hw.1 k_1_4
    refine lv_iload_n hx hb dX1_joined_40 rfl (lv_at hl 1 rfl) ?_
    refine lv_if_eq (tgt := 52) hx hb dX1_joined_41 (by decide) (fun c_1 => ?_) (fun c_1 => ?_)
    · replace hw := hw.1 c_1
      refine lv_iconst (v := 0) hx hb dX1_joined_52 (by decide) ?_
      exact kR53 0  _ _ _ hw hP hD hS
    · replace hw := hw.2 c_1
      refine lv_iload_n hx hb dX1_joined_44 rfl (lv_at hl 2 rfl) ?_
      refine lv_if_eq (tgt := 52) hx hb dX1_joined_45 (by decide) (fun c_2 => ?_) (fun c_2 => ?_)
      · replace hw := hw.1 c_2
        refine lv_iconst (v := 0) hx hb dX1_joined_52 (by decide) ?_
        exact kR53 0  _ _ _ hw hP hD hS
      · replace hw := hw.2 c_2
        refine lv_iconst (v := 1) hx hb dX1_joined_48 (by decide) ?_
        refine lv_goto (tgt := 53) hx hb dX1_joined_49 (by decide) ?_
        exact kR53 1  _ _ _ hw hP hD hS
  replace hw := hw.2
  by_cases k_1_5 : xo = (5 : Int32)
  · refine lv_tableIn (tgt := 54) hx hb dX1_joined_1 (by rw [k_1_5]; decide) (by rw [k_1_5]; decide) (off := 53) (by rw [k_1_5]; rfl) (by decide) ?_
    replace hw := hw.1 k_1_5
    refine lv_iload_n hx hb dX1_joined_54 rfl (lv_at hl 1 rfl) ?_
    refine lv_if_ne (tgt := 62) hx hb dX1_joined_55 (by decide) (fun c_3 => ?_) (fun c_3 => ?_)
    · replace hw := hw.1 c_3
      refine lv_iconst (v := 1) hx hb dX1_joined_62 (by decide) ?_
      refine lv_goto (tgt := 67) hx hb dX1_joined_63 (by decide) ?_
      exact kR67 1  _ _ _ hw hP hD hS
    · replace hw := hw.2 c_3
      refine lv_iload_n hx hb dX1_joined_58 rfl (lv_at hl 2 rfl) ?_
      refine lv_if_eq (tgt := 66) hx hb dX1_joined_59 (by decide) (fun c_4 => ?_) (fun c_4 => ?_)
      · replace hw := hw.1 c_4
        refine lv_iconst (v := 0) hx hb dX1_joined_66 (by decide) ?_
        exact kR67 0  _ _ _ hw hP hD hS
      · replace hw := hw.2 c_4
        refine lv_iconst (v := 1) hx hb dX1_joined_62 (by decide) ?_
        refine lv_goto (tgt := 67) hx hb dX1_joined_63 (by decide) ?_
        exact kR67 1  _ _ _ hw hP hD hS
  replace hw := hw.2
  by_cases k_1_6 : xo = (6 : Int32)
  · refine lv_tableIn (tgt := 68) hx hb dX1_joined_1 (by rw [k_1_6]; decide) (by rw [k_1_6]; decide) (off := 67) (by rw [k_1_6]; rfl) (by decide) ?_
    replace hw := hw.1 k_1_6
    refine lv_iload_n hx hb dX1_joined_68 rfl (lv_at hl 1 rfl) ?_
    refine lv_iload_n hx hb dX1_joined_69 rfl (lv_at hl 2 rfl) ?_
    refine lv_icmp_ge (tgt := 77) hx hb dX1_joined_70 (by decide) (fun c_5 => ?_) (fun c_5 => ?_)
    · replace hw := hw.1 c_5
      refine lv_iconst (v := 0) hx hb dX1_joined_77 (by decide) ?_
      exact kR78 0  _ _ _ hw hP hD hS
    · replace hw := hw.2 c_5
      refine lv_iconst (v := 1) hx hb dX1_joined_73 (by decide) ?_
      refine lv_goto (tgt := 78) hx hb dX1_joined_74 (by decide) ?_
      exact kR78 1  _ _ _ hw hP hD hS
  replace hw := hw.2
  by_cases k_1_7 : xo = (7 : Int32)
  · refine lv_tableIn (tgt := 79) hx hb dX1_joined_1 (by rw [k_1_7]; decide) (by rw [k_1_7]; decide) (off := 78) (by rw [k_1_7]; rfl) (by decide) ?_
    replace hw := hw.1 k_1_7
    refine lv_iload_n hx hb dX1_joined_79 rfl (lv_at hl 1 rfl) ?_
    refine lv_iload_n hx hb dX1_joined_80 rfl (lv_at hl 2 rfl) ?_
    refine lv_icmp_ne (tgt := 88) hx hb dX1_joined_81 (by decide) (fun c_6 => ?_) (fun c_6 => ?_)
    · replace hw := hw.1 c_6
      refine lv_iconst (v := 0) hx hb dX1_joined_88 (by decide) ?_
      exact kR89 0  _ _ _ hw hP hD hS
    · replace hw := hw.2 c_6
      refine lv_iconst (v := 1) hx hb dX1_joined_84 (by decide) ?_
      refine lv_goto (tgt := 89) hx hb dX1_joined_85 (by decide) ?_
      exact kR89 1  _ _ _ hw hP hD hS
  replace hw := hw.2
  by_cases k_1_8 : xo = (8 : Int32)
  · refine lv_tableIn (tgt := 90) hx hb dX1_joined_1 (by rw [k_1_8]; decide) (by rw [k_1_8]; decide) (off := 89) (by rw [k_1_8]; rfl) (by decide) ?_
    replace hw := hw.1 k_1_8
    refine lv_iload_n hx hb dX1_joined_90 rfl (lv_at hl 1 rfl) ?_
    refine lv_iload_n hx hb dX1_joined_91 rfl (lv_at hl 2 rfl) ?_
    refine lv_iadd hx hb dX1_joined_92 ?_
    exact kR93 (xa + xb)  _ _ _ hw hP hD hS
  replace hw := hw.2
  by_cases k_1_9 : xo = (9 : Int32)
  · refine lv_tableIn (tgt := 94) hx hb dX1_joined_1 (by rw [k_1_9]; decide) (by rw [k_1_9]; decide) (off := 93) (by rw [k_1_9]; rfl) (by decide) ?_
    replace hw := hw.1 k_1_9
    refine lv_iload_n hx hb dX1_joined_94 rfl (lv_at hl 1 rfl) ?_
    refine lv_iload_n hx hb dX1_joined_95 rfl (lv_at hl 2 rfl) ?_
    refine lv_isub hx hb dX1_joined_96 ?_
    exact kR97 (xa - xb)  _ _ _ hw hP hD hS
  replace hw := hw.2
  have hout : (xo : Int32).toInt < 4 ∨ 9 < (xo : Int32).toInt := tsw_out _ 4 9 (by intro j h1 h2; have hj : j = 4 ∨ j = 5 ∨ j = 6 ∨ j = 7 ∨ j = 8 ∨ j = 9 := (by omega); rcases hj with rfl | rfl | rfl | rfl | rfl | rfl <;> first | exact lv_neT k_1_4 rfl | exact lv_neT k_1_5 rfl | exact lv_neT k_1_6 rfl | exact lv_neT k_1_7 rfl | exact lv_neT k_1_8 rfl | exact lv_neT k_1_9 rfl)
  refine lv_tableOut (tgt := 98) hx hb dX1_joined_1 hout (by decide) ?_
  replace hw := hw hout
  refine lv_iload_n hx hb dX1_joined_98 rfl (lv_at hl 1 rfl) ?_
  refine lv_iload_n hx hb dX1_joined_99 rfl (lv_at hl 2 rfl) ?_
  refine lv_imul hx hb dX1_joined_100 ?_
  exact kR101 (xa * xb)  _ _ _ hw hP hD hS
set_option maxHeartbeats 4000000 in
set_option maxRecDepth 100000 in
theorem c_X1_joined (l : Launch) (D : va_G) (ak : Nat → ClassId) (ad : Nat → Nat) (sz : Nat) (xo : Int32) (xa : Int32) (xb : Int32) (Φ : Int32 → Prop) (hf : wp_X1_joined xo xa xb Φ) : Met l yX1_joined wsX1_joined ({ frames := 0, cells := 0, slots := 0, locals := 0 }) (cPre D ak ad [.int (xo), .int (xa), .int (xb)] ([]) sz) (cI D (S := Unit) (fun (r : Int32) (u : Unit) => Φ r ) (fun u => []) ([]) sz) 0 0 (va_A ([]) sz) := by
  refine Met.ofW (cc := cX1_joined) (maxL := 3) (ret := (some .int)) (by decide) rfl ?_
  intro p e s m args below meth c s₁ B hml hv
  obtain ⟨rfl, hsz, hP, hE, hD0, hT⟩ := hv
  have hx := B.exec
  have hb := B.bytes
  have hr := B.returns
  have hts := atoms_spec (ws := wsX1_joined) B.pre
  have hown : s.vm.findClass RX1 = some m.cls := findClass_of_methodNamed B.named
  have hlocks := B.notSynchronized
  subst hsz
  have hD := hD0.self (sz := s.heap.size)
  generalize hAe : va_A ([]) s.heap.size = A at hD hT ⊢
  have hA : ∀ q : Nat, s.heap.size ≤ q → A q := fun q h => by rw [← hAe]; exact Or.inr h
  have hS : va_S A s.heap s.heap [] := va_S.rf
  have hl := lv_entry ([.int (xo), .int (xa), .int (xb)]) (n := 3) (Nat.le_of_ble_eq_true rfl)
  rw [lg_entry_eq]
  generalize (lg_sl ([.int (xo), .int (xa), .int (xb)]) ++ List.replicate (3 - (lg_sl ([.int (xo), .int (xa), .int (xb)])).length) Slot.unset).toArray = ls at hl ⊢
  have hl : lv_has ls 3 [(0, .int (xo)), (1, .int (xa)), (2, .int (xb))] := hl
  exact kj_X1_joined_e hx hb hown hts hml hE hT hA xo xa xb Φ (fun r  H locs ls hw hP hD hS => W.iret (v := r) hx hb hr (fun t ht hW => ⟨⟨r, (), rfl, hw, by rw [ht]; exact hP, by rw [hAe]; exact hD⟩, by rw [hAe]; exact hS.F ht⟩) hS.2.2 dX1_joined_53) (fun r  H locs ls hw hP hD hS => W.iret (v := r) hx hb hr (fun t ht hW => ⟨⟨r, (), rfl, hw, by rw [ht]; exact hP, by rw [hAe]; exact hD⟩, by rw [hAe]; exact hS.F ht⟩) hS.2.2 dX1_joined_67) (fun r  H locs ls hw hP hD hS => W.iret (v := r) hx hb hr (fun t ht hW => ⟨⟨r, (), rfl, hw, by rw [ht]; exact hP, by rw [hAe]; exact hD⟩, by rw [hAe]; exact hS.F ht⟩) hS.2.2 dX1_joined_78) (fun r  H locs ls hw hP hD hS => W.iret (v := r) hx hb hr (fun t ht hW => ⟨⟨r, (), rfl, hw, by rw [ht]; exact hP, by rw [hAe]; exact hD⟩, by rw [hAe]; exact hS.F ht⟩) hS.2.2 dX1_joined_89) (fun r  H locs ls hw hP hD hS => W.iret (v := r) hx hb hr (fun t ht hW => ⟨⟨r, (), rfl, hw, by rw [ht]; exact hP, by rw [hAe]; exact hD⟩, by rw [hAe]; exact hS.F ht⟩) hS.2.2 dX1_joined_93) (fun r  H locs ls hw hP hD hS => W.iret (v := r) hx hb hr (fun t ht hW => ⟨⟨r, (), rfl, hw, by rw [ht]; exact hP, by rw [hAe]; exact hD⟩, by rw [hAe]; exact hS.F ht⟩) hS.2.2 dX1_joined_97) (fun r  H locs ls hw hP hD hS => W.iret (v := r) hx hb hr (fun t ht hW => ⟨⟨r, (), rfl, hw, by rw [ht]; exact hP, by rw [hAe]; exact hD⟩, by rw [hAe]; exact hS.F ht⟩) hS.2.2 dX1_joined_101)  _ _ _ hf hP hD hS hl

def wW_X1_bearing (ak : Nat → ClassId) (ad : Nat → Nat) (h : Nat) (mm : Nat → Nat) (pg : Nat) (Mway : Int32) (Mstate : Int32) (Mnext : Int32) (Msteps : Int32) (Mwritten : Int32) (Mstuffs : Nat → Int32) (Mtwins : Nat → Int32) : va_W := [(h, .inr (1, xob mm (pg) (Mway) (Mstate) (Mnext) (Msteps) (Mwritten))), ((mm 0), .inl (ak 0, 16, .inl (Mstuffs))), ((mm 1), .inl (ak 0, 16, .inl (Mtwins)))]
def wK_X1_bearing (ak : Nat → ClassId) (ad : Nat → Nat) (pg : Nat) (pa : Nat → Nat) (Pst : Int32) (Pce : Int32) (Pgi : Int32) (Pln : Int32) (Pbears : Nat → Int32) : va_W := [(pg, .inr (2, pob pa (Pst) (Pce) (Pgi) (Pln))), ((pa 0), .inl (ak 0, 4, .inl (Pbears)))]
def wp_X1_bearing (Mstuffs : Nat → Int32) (Mtwins : Nat → Int32) (Pbears : Nat → Int32) (xl : Int32)  (Φ : Int32 → Prop) : Prop := vp_in xl 16 ∧ vp_in (Mstuffs (xl).toNatClampNeg) 4 ∧ vp_in xl 16 ∧ Φ ((Pbears (Mstuffs (xl).toNatClampNeg).toNatClampNeg) * (Mtwins (xl).toNatClampNeg)) 
set_option maxHeartbeats 4000000 in
set_option maxRecDepth 100000 in
theorem kj_X1_bearing_e {p : Program} {l : Launch} {e : Env} {R : Room} {s : State} {m : MethodId} {args : Array Value} {below : List Frame} {meth : Method} {c : Code} {cells slots : Nat} {Q : State → Prop} {A : Nat → Prop} {D : va_G} {ak : Nat → ClassId} {ad : Nat → Nat} (hx : p.tables.exec = Jvm.exec) (hb : c.code = cX1_bearing) (hown : s.vm.findClass RX1 = some m.cls) (hts : ∀ w ∈ wsX1_bearing, w.before args s = true) (hml : c.maxLocals = 2) (hE : EV D ak s) (hT : ST D ak ad A s s.heap) (hA : ∀ q, s.heap.size ≤ q → A q) (h : Nat) (mm : Nat → Nat) (pg : Nat) (pa : Nat → Nat) (Mway : Int32) (Mstate : Int32) (Mnext : Int32) (Msteps : Int32) (Mwritten : Int32) (Mstuffs : Nat → Int32) (Mtwins : Nat → Int32) (Pst : Int32) (Pce : Int32) (Pgi : Int32) (Pln : Int32) (Pbears : Nat → Int32) (xl : Int32) (hKT : KT D A (wK_X1_bearing ak ad pg pa Pst Pce Pgi Pln Pbears) s.heap)  (Φ : Int32 → Prop)
    (kR21 : ∀ (r : Int32)  (H : Heap) (locs : List Loc) (ls : Array Slot), Φ r  → va_P D vwCl (wW_X1_bearing ak ad h mm pg Mway Mstate Mnext Msteps Mwritten Mstuffs Mtwins) H → va_D A (wW_X1_bearing ak ad h mm pg Mway Mstate Mnext Msteps Mwritten Mstuffs Mtwins) → va_S A s.heap H locs → W p l e R s m args below meth c H locs cells slots Q (F0 m 21 ls [.int r]))
    : ∀  (H : Heap) (locs : List Loc) (ls : Array Slot), wp_X1_bearing Mstuffs Mtwins Pbears xl  Φ → va_P D vwCl (wW_X1_bearing ak ad h mm pg Mway Mstate Mnext Msteps Mwritten Mstuffs Mtwins) H → va_D A (wW_X1_bearing ak ad h mm pg Mway Mstate Mnext Msteps Mwritten Mstuffs Mtwins) → va_S A s.heap H locs → lv_has ls 2 [(0, .ref h), (1, .int (xl))] → W p l e R s m args below meth c H locs cells slots Q (F0 m 0 ls ([])) := by
  have hCW : ∀ {H : Heap} {locs : List Loc}, va_S A s.heap H locs → va_P D vwCl (wK_X1_bearing ak ad pg pa Pst Pce Pgi Pln Pbears) H := fun hS => (hKT.kept hS.2.1).1
  intro  H locs ls hw hP hD hS hl
  delta wp_X1_bearing at hw
  refine lv_aload_n hx hb dX1_bearing_0 rfl (lv_at hl 0 rfl) ?_
  refine vt_get (D := D) (ci := 1) (v := .ref pg) (C := RX1) (T := TX1) (N := 12) hx hb hts (fun w h => wm_c (wc_X1 w h)) hown hE.1 hP 0 rfl rfl 0 (by decide) tX1_0 (hts (.fieldLink RX1 34 "WornLines$Machine" "programme" "LWornLines$Programme;") (wm_c hw_301)) (fun _ h9 => h9) rfl dX1_bearing_1 ?_
  refine vt_get (D := D) (ci := 2) (v := .ref (pa 0)) (C := RX2) (T := TX2) (N := 17) hx hb hts (fun w h => wm_c (wc_X2 w h)) hown hE.1 (hCW hS) 0 rfl rfl 1 (by decide) tX2_1 (hts (.fieldLink RX1 82 "WornLines$Programme" "bears" "[I") (wm_c hw_322)) (fun _ h9 => h9) rfl dX1_bearing_4 ?_
  refine lv_aload_n hx hb dX1_bearing_7 rfl (lv_at hl 0 rfl) ?_
  refine vt_get (D := D) (ci := 1) (v := .ref (mm 0)) (C := RX1) (T := TX1) (N := 12) hx hb hts (fun w h => wm_c (wc_X1 w h)) hown hE.1 hP 0 rfl rfl 1 (by decide) tX1_1 (hts (.fieldLink RX1 9 "WornLines$Machine" "stuffs" "[I") (wm_c hw_294)) (fun _ h9 => h9) rfl dX1_bearing_8 ?_
  refine lv_iload_n hx hb dX1_bearing_11 rfl (lv_at hl 1 rfl) ?_
  obtain ⟨h_1, hw⟩ := hw
  refine va_iald hx hb hE.1 hP 1 0 rfl rfl (h_1) dX1_bearing_12 ?_
  obtain ⟨h_2, hw⟩ := hw
  refine va_iald hx hb hE.1 (hCW hS) 1 0 rfl rfl (h_2) dX1_bearing_13 ?_
  refine lv_aload_n hx hb dX1_bearing_14 rfl (lv_at hl 0 rfl) ?_
  refine vt_get (D := D) (ci := 1) (v := .ref (mm 1)) (C := RX1) (T := TX1) (N := 12) hx hb hts (fun w h => wm_c (wc_X1 w h)) hown hE.1 hP 0 rfl rfl 2 (by decide) tX1_2 (hts (.fieldLink RX1 15 "WornLines$Machine" "twins" "[I") (wm_c hw_295)) (fun _ h9 => h9) rfl dX1_bearing_15 ?_
  refine lv_iload_n hx hb dX1_bearing_18 rfl (lv_at hl 1 rfl) ?_
  obtain ⟨h_3, hw⟩ := hw
  refine va_iald hx hb hE.1 hP 2 0 rfl rfl (h_3) dX1_bearing_19 ?_
  refine lv_imul hx hb dX1_bearing_20 ?_
  exact kR21 ((Pbears (Mstuffs (xl).toNatClampNeg).toNatClampNeg) * (Mtwins (xl).toNatClampNeg))  _ _ _ hw hP hD hS
set_option maxHeartbeats 4000000 in
set_option maxRecDepth 100000 in
theorem c_X1_bearing (l : Launch) (D : va_G) (ak : Nat → ClassId) (ad : Nat → Nat) (sz : Nat) (h : Nat) (mm : Nat → Nat) (pg : Nat) (pa : Nat → Nat) (Mway : Int32) (Mstate : Int32) (Mnext : Int32) (Msteps : Int32) (Mwritten : Int32) (Mstuffs : Nat → Int32) (Mtwins : Nat → Int32) (Pst : Int32) (Pce : Int32) (Pgi : Int32) (Pln : Int32) (Pbears : Nat → Int32) (xl : Int32) (Φ : Int32 → Prop) (hf : wp_X1_bearing Mstuffs Mtwins Pbears xl Φ) : Met l yX1_bearing wsX1_bearing ({ frames := 0, cells := 0, slots := 0, locals := 0 }) (cPreK D ak ad [.ref h, .int (xl)] ((wW_X1_bearing ak ad h mm pg Mway Mstate Mnext Msteps Mwritten Mstuffs Mtwins)) sz ((wK_X1_bearing ak ad pg pa Pst Pce Pgi Pln Pbears))) (cI D (S := Unit) (fun (r : Int32) (u : Unit) => Φ r ) (fun u => (wW_X1_bearing ak ad h mm pg Mway Mstate Mnext Msteps Mwritten Mstuffs Mtwins)) ((wW_X1_bearing ak ad h mm pg Mway Mstate Mnext Msteps Mwritten Mstuffs Mtwins)) sz) 0 0 (va_A ((wW_X1_bearing ak ad h mm pg Mway Mstate Mnext Msteps Mwritten Mstuffs Mtwins)) sz) := by
  refine Met.ofW (cc := cX1_bearing) (maxL := 2) (ret := (some .int)) (by decide) rfl ?_
  intro p e s m args below meth c s₁ B hml hv
  obtain ⟨⟨rfl, hsz, hP, hE, hD0, hT⟩, hKT⟩ := hv
  have hx := B.exec
  have hb := B.bytes
  have hr := B.returns
  have hts := atoms_spec (ws := wsX1_bearing) B.pre
  have hown : s.vm.findClass RX1 = some m.cls := findClass_of_methodNamed B.named
  have hlocks := B.notSynchronized
  subst hsz
  have hD := hD0.self (sz := s.heap.size)
  generalize hAe : va_A ((wW_X1_bearing ak ad h mm pg Mway Mstate Mnext Msteps Mwritten Mstuffs Mtwins)) s.heap.size = A at hD hT hKT ⊢
  have hA : ∀ q : Nat, s.heap.size ≤ q → A q := fun q h => by rw [← hAe]; exact Or.inr h
  have hS : va_S A s.heap s.heap [] := va_S.rf
  have hl := lv_entry ([.ref h, .int (xl)]) (n := 2) (Nat.le_of_ble_eq_true rfl)
  rw [lg_entry_eq]
  generalize (lg_sl ([.ref h, .int (xl)]) ++ List.replicate (2 - (lg_sl ([.ref h, .int (xl)])).length) Slot.unset).toArray = ls at hl ⊢
  have hl : lv_has ls 2 [(0, .ref h), (1, .int (xl))] := hl
  exact kj_X1_bearing_e hx hb hown hts hml hE hT hA h mm pg pa Mway Mstate Mnext Msteps Mwritten Mstuffs Mtwins Pst Pce Pgi Pln Pbears xl hKT Φ (fun r  H locs ls hw hP hD hS => W.iret (v := r) hx hb hr (fun t ht hW => ⟨⟨r, (), rfl, hw, by rw [ht]; exact hP, by rw [hAe]; exact hD⟩, by rw [hAe]; exact hS.F ht⟩) hS.2.2 dX1_bearing_21)  _ _ _ hf hP hD hS hl

def wW_X1_isEndless (ak : Nat → ClassId) (ad : Nat → Nat) (h : Nat) (mm : Nat → Nat) (pg : Nat) (Mway : Int32) (Mstate : Int32) (Mnext : Int32) (Msteps : Int32) (Mwritten : Int32) : va_W := [(h, .inr (1, xob mm (pg) (Mway) (Mstate) (Mnext) (Msteps) (Mwritten)))]
def wp_X1_isEndless (Mstate : Int32)  (Φ : Int32 → Prop) : Prop := (¬ Mstate = 1 → Φ 0 ) ∧ (Mstate = 1 → Φ 1 )
set_option maxHeartbeats 4000000 in
set_option maxRecDepth 100000 in
theorem kj_X1_isEndless_e {p : Program} {l : Launch} {e : Env} {R : Room} {s : State} {m : MethodId} {args : Array Value} {below : List Frame} {meth : Method} {c : Code} {cells slots : Nat} {Q : State → Prop} {A : Nat → Prop} {D : va_G} {ak : Nat → ClassId} {ad : Nat → Nat} (hx : p.tables.exec = Jvm.exec) (hb : c.code = cX1_isEndless) (hown : s.vm.findClass RX1 = some m.cls) (hts : ∀ w ∈ wsX1_isEndless, w.before args s = true) (hml : c.maxLocals = 1) (hE : EV D ak s) (hT : ST D ak ad A s s.heap) (hA : ∀ q, s.heap.size ≤ q → A q) (h : Nat) (mm : Nat → Nat) (pg : Nat) (Mway : Int32) (Mstate : Int32) (Mnext : Int32) (Msteps : Int32) (Mwritten : Int32)  (Φ : Int32 → Prop)
    (kR13 : ∀ (r : Int32)  (H : Heap) (locs : List Loc) (ls : Array Slot), (r = 0 ∨ r = 1) → Φ r  → va_P D vwCl (wW_X1_isEndless ak ad h mm pg Mway Mstate Mnext Msteps Mwritten) H → va_D A (wW_X1_isEndless ak ad h mm pg Mway Mstate Mnext Msteps Mwritten) → va_S A s.heap H locs → W p l e R s m args below meth c H locs cells slots Q (F0 m 13 ls [.int r]))
    : ∀  (H : Heap) (locs : List Loc) (ls : Array Slot), wp_X1_isEndless Mstate  Φ → va_P D vwCl (wW_X1_isEndless ak ad h mm pg Mway Mstate Mnext Msteps Mwritten) H → va_D A (wW_X1_isEndless ak ad h mm pg Mway Mstate Mnext Msteps Mwritten) → va_S A s.heap H locs → lv_has ls 1 [(0, .ref h)] → W p l e R s m args below meth c H locs cells slots Q (F0 m 0 ls ([])) := by
  intro  H locs ls hw hP hD hS hl
  delta wp_X1_isEndless at hw
  refine lv_aload_n hx hb dX1_isEndless_0 rfl (lv_at hl 0 rfl) ?_
  refine vt_get (D := D) (ci := 1) (v := .int (Mstate)) (C := RX1) (T := TX1) (N := 12) hx hb hts (fun w h => wm_c (wc_X1 w h)) hown hE.1 hP 0 rfl rfl 8 (by decide) tX1_8 (hts (.fieldLink RX1 31 "WornLines$Machine" "state" "I") (wm_c hw_300)) (fun _ h9 => h9) rfl dX1_isEndless_1 ?_
  refine lv_iconst (v := 1) hx hb dX1_isEndless_4 (by decide) ?_
  refine lv_icmp_ne (tgt := 12) hx hb dX1_isEndless_5 (by decide) (fun c_1 => ?_) (fun c_1 => ?_)
  · replace hw := hw.1 c_1
    refine lv_iconst (v := 0) hx hb dX1_isEndless_12 (by decide) ?_
    exact kR13 0  _ _ _ (Or.inl rfl) hw hP hD hS
  · replace hw := hw.2 c_1
    refine lv_iconst (v := 1) hx hb dX1_isEndless_8 (by decide) ?_
    refine lv_goto (tgt := 13) hx hb dX1_isEndless_9 (by decide) ?_
    exact kR13 1  _ _ _ (Or.inr rfl) hw hP hD hS
set_option maxHeartbeats 4000000 in
set_option maxRecDepth 100000 in
theorem c_X1_isEndless (l : Launch) (D : va_G) (ak : Nat → ClassId) (ad : Nat → Nat) (sz : Nat) (h : Nat) (mm : Nat → Nat) (pg : Nat) (Mway : Int32) (Mstate : Int32) (Mnext : Int32) (Msteps : Int32) (Mwritten : Int32) (Φ : Int32 → Prop) (hf : wp_X1_isEndless Mstate Φ) : Met l yX1_isEndless wsX1_isEndless ({ frames := 0, cells := 0, slots := 0, locals := 0 }) (cPre D ak ad [.ref h] ((wW_X1_isEndless ak ad h mm pg Mway Mstate Mnext Msteps Mwritten)) sz) (cI D (S := Unit) (fun (r : Int32) (u : Unit) => Φ r ) (fun u => (wW_X1_isEndless ak ad h mm pg Mway Mstate Mnext Msteps Mwritten)) ((wW_X1_isEndless ak ad h mm pg Mway Mstate Mnext Msteps Mwritten)) sz) 0 0 (va_A ((wW_X1_isEndless ak ad h mm pg Mway Mstate Mnext Msteps Mwritten)) sz) := by
  refine Met.ofW (cc := cX1_isEndless) (maxL := 1) (ret := (some .boolean)) (by decide) rfl ?_
  intro p e s m args below meth c s₁ B hml hv
  obtain ⟨rfl, hsz, hP, hE, hD0, hT⟩ := hv
  have hx := B.exec
  have hb := B.bytes
  have hr := B.returns
  have hts := atoms_spec (ws := wsX1_isEndless) B.pre
  have hown : s.vm.findClass RX1 = some m.cls := findClass_of_methodNamed B.named
  have hlocks := B.notSynchronized
  subst hsz
  have hD := hD0.self (sz := s.heap.size)
  generalize hAe : va_A ((wW_X1_isEndless ak ad h mm pg Mway Mstate Mnext Msteps Mwritten)) s.heap.size = A at hD hT ⊢
  have hA : ∀ q : Nat, s.heap.size ≤ q → A q := fun q h => by rw [← hAe]; exact Or.inr h
  have hS : va_S A s.heap s.heap [] := va_S.rf
  have hl := lv_entry ([.ref h]) (n := 1) (Nat.le_of_ble_eq_true rfl)
  rw [lg_entry_eq]
  generalize (lg_sl ([.ref h]) ++ List.replicate (1 - (lg_sl ([.ref h])).length) Slot.unset).toArray = ls at hl ⊢
  have hl : lv_has ls 1 [(0, .ref h)] := hl
  exact kj_X1_isEndless_e hx hb hown hts hml hE hT hA h mm pg Mway Mstate Mnext Msteps Mwritten Φ (fun r  H locs ls hz hw hP hD hS => W.zret (v := r) hx hb hr (bl_zn hz) (fun t ht hW => ⟨⟨r, (), rfl, hw, by rw [ht]; exact hP, by rw [hAe]; exact hD⟩, by rw [hAe]; exact hS.F ht⟩) hS.2.2 dX1_isEndless_13)  _ _ _ hf hP hD hS hl

def wW_X1_fallIfHole (ak : Nat → ClassId) (ad : Nat → Nat) (h : Nat) (mm : Nat → Nat) (pg : Nat) (Mway : Int32) (Mstate : Int32) (Mnext : Int32) (Msteps : Int32) (Mwritten : Int32) (Mstuffs : Nat → Int32) (Mtwins : Nat → Int32) (Mworn : Nat → Int32) : va_W := [(h, .inr (1, xob mm (pg) (Mway) (Mstate) (Mnext) (Msteps) (Mwritten))), ((mm 0), .inl (ak 0, 16, .inl (Mstuffs))), ((mm 1), .inl (ak 0, 16, .inl (Mtwins))), ((mm 2), .inl (ak 0, 16, .inl (Mworn)))]
def wK_X1_fallIfHole (ak : Nat → ClassId) (ad : Nat → Nat) (pg : Nat) (pa : Nat → Nat) (Pst : Int32) (Pce : Int32) (Pgi : Int32) (Pln : Int32) (Pbears : Nat → Int32) : va_W := [(pg, .inr (2, pob pa (Pst) (Pce) (Pgi) (Pln))), ((pa 0), .inl (ak 0, 4, .inl (Pbears)))]
def wp_X1_fallIfHole (Mway : Int32) (Mnext : Int32) (Mstuffs : Nat → Int32) (Mtwins : Nat → Int32) (Mworn : Nat → Int32) (Pln : Int32) (Pbears : Nat → Int32) (Mstate : Int32) (Φ : Int32 → Prop) : Prop := (¬ Mstate = 1 → Φ Mstate) ∧ (Mstate = 1 → (¬ Mway = 0 → Φ Mstate) ∧ (Mway = 0 → wp_X7_within Mnext Pln (fun r_4 => (r_4 = 0 → Φ Mstate) ∧ (¬ r_4 = 0 → vp_in Mnext 16 ∧ wp_X1_bearing Mstuffs Mtwins Pbears Mnext (fun r_8 => ((Mworn (Mnext).toNatClampNeg) < r_8 → Φ Mstate) ∧ (¬ (Mworn (Mnext).toNatClampNeg) < r_8 → Φ 3))))))
set_option maxHeartbeats 4000000 in
set_option maxRecDepth 100000 in
theorem kj_X1_fallIfHole_e {p : Program} {l : Launch} {e : Env} {R : Room} {s : State} {m : MethodId} {args : Array Value} {below : List Frame} {meth : Method} {c : Code} {cells slots : Nat} {Q : State → Prop} {A : Nat → Prop} {D : va_G} {ak : Nat → ClassId} {ad : Nat → Nat} (hx : p.tables.exec = Jvm.exec) (hb : c.code = cX1_fallIfHole) (hown : s.vm.findClass RX1 = some m.cls) (hts : ∀ w ∈ wsX1_fallIfHole, w.before args s = true) (hml : c.maxLocals = 1) (hE : EV D ak s) (hT : ST D ak ad A s s.heap) (hA : ∀ q, s.heap.size ≤ q → A q) (hRf : 1 ≤ R.frames) (hRl : 21 ≤ R.locals) (hRc : cells ≤ R.cells ∧ slots ≤ R.slots) (h : Nat) (mm : Nat → Nat) (pg : Nat) (pa : Nat → Nat) (Mway : Int32) (Mnext : Int32) (Msteps : Int32) (Mwritten : Int32) (Mstuffs : Nat → Int32) (Mtwins : Nat → Int32) (Mworn : Nat → Int32) (Pst : Int32) (Pce : Int32) (Pgi : Int32) (Pln : Int32) (Pbears : Nat → Int32) (hKT : KT D A (wK_X1_fallIfHole ak ad pg pa Pst Pce Pgi Pln Pbears) s.heap)  (Φ : Int32 → Prop)
    (kR57 : ∀ (Mstate : Int32) (H : Heap) (locs : List Loc) (ls : Array Slot), Φ Mstate → va_P D vwCl (wW_X1_fallIfHole ak ad h mm pg Mway Mstate Mnext Msteps Mwritten Mstuffs Mtwins Mworn) H → va_D A (wW_X1_fallIfHole ak ad h mm pg Mway Mstate Mnext Msteps Mwritten Mstuffs Mtwins Mworn) → va_S A s.heap H locs → W p l e R s m args below meth c H locs cells slots Q (F0 m 57 ls []))
    : ∀ (Mstate : Int32) (H : Heap) (locs : List Loc) (ls : Array Slot), wp_X1_fallIfHole Mway Mnext Mstuffs Mtwins Mworn Pln Pbears Mstate Φ → va_P D vwCl (wW_X1_fallIfHole ak ad h mm pg Mway Mstate Mnext Msteps Mwritten Mstuffs Mtwins Mworn) H → va_D A (wW_X1_fallIfHole ak ad h mm pg Mway Mstate Mnext Msteps Mwritten Mstuffs Mtwins Mworn) → va_S A s.heap H locs → lv_has ls 1 [(0, .ref h)] → W p l e R s m args below meth c H locs cells slots Q (F0 m 0 ls ([])) := by
  have hCW : ∀ {H : Heap} {locs : List Loc}, va_S A s.heap H locs → va_P D vwCl (wK_X1_fallIfHole ak ad pg pa Pst Pce Pgi Pln Pbears) H := fun hS => (hKT.kept hS.2.1).1
  intro Mstate H locs ls hw hP hD hS hl
  delta wp_X1_fallIfHole at hw
  refine lv_aload_n hx hb dX1_fallIfHole_0 rfl (lv_at hl 0 rfl) ?_
  refine vt_get (D := D) (ci := 1) (v := .int (Mstate)) (C := RX1) (T := TX1) (N := 12) hx hb hts (fun w h => wm_c (wc_X1 w h)) hown hE.1 hP 0 rfl rfl 8 (by decide) tX1_8 (hts (.fieldLink RX1 31 "WornLines$Machine" "state" "I") (wm_c hw_300)) (fun _ h9 => h9) rfl dX1_fallIfHole_1 ?_
  refine lv_iconst (v := 1) hx hb dX1_fallIfHole_4 (by decide) ?_
  refine lv_icmp_ne (tgt := 57) hx hb dX1_fallIfHole_5 (by decide) (fun c_1 => ?_) (fun c_1 => ?_)
  · replace hw := hw.1 c_1
    exact kR57 Mstate _ _ _ hw hP hD hS
  · replace hw := hw.2 c_1
    refine lv_aload_n hx hb dX1_fallIfHole_8 rfl (lv_at hl 0 rfl) ?_
    refine vt_get (D := D) (ci := 1) (v := .int (Mway)) (C := RX1) (T := TX1) (N := 12) hx hb hts (fun w h => wm_c (wc_X1 w h)) hown hE.1 hP 0 rfl rfl 7 (by decide) tX1_7 (hts (.fieldLink RX1 27 "WornLines$Machine" "way" "I") (wm_c hw_299)) (fun _ h9 => h9) rfl dX1_fallIfHole_9 ?_
    refine lv_if_ne (tgt := 57) hx hb dX1_fallIfHole_12 (by decide) (fun c_2 => ?_) (fun c_2 => ?_)
    · replace hw := hw.1 c_2
      exact kR57 Mstate _ _ _ hw hP hD hS
    · replace hw := hw.2 c_2
      refine lv_aload_n hx hb dX1_fallIfHole_15 rfl (lv_at hl 0 rfl) ?_
      refine vt_get (D := D) (ci := 1) (v := .int (Mnext)) (C := RX1) (T := TX1) (N := 12) hx hb hts (fun w h => wm_c (wc_X1 w h)) hown hE.1 hP 0 rfl rfl 9 (by decide) tX1_9 (hts (.fieldLink RX1 58 "WornLines$Machine" "next" "I") (wm_c hw_323)) (fun _ h9 => h9) rfl dX1_fallIfHole_16 ?_
      refine lv_aload_n hx hb dX1_fallIfHole_19 rfl (lv_at hl 0 rfl) ?_
      refine vt_get (D := D) (ci := 1) (v := .ref pg) (C := RX1) (T := TX1) (N := 12) hx hb hts (fun w h => wm_c (wc_X1 w h)) hown hE.1 hP 0 rfl rfl 0 (by decide) tX1_0 (hts (.fieldLink RX1 34 "WornLines$Machine" "programme" "LWornLines$Programme;") (wm_c hw_301)) (fun _ h9 => h9) rfl dX1_fallIfHole_20 ?_
      refine vt_get (D := D) (ci := 2) (v := .int (Pln)) (C := RX2) (T := TX2) (N := 17) hx hb hts (fun w h => wm_c (wc_X2 w h)) hown hE.1 (hCW hS) 0 rfl rfl 9 (by decide) tX2_9 (hts (.fieldLink RX1 92 "WornLines$Programme" "lines" "I") (wm_c hw_319)) (fun _ h9 => h9) rfl dX1_fallIfHole_23 ?_
      refine kc_i (wc := []) (wr := [(h, .inr (1, xob mm (pg) (Mway) (Mstate) (Mnext) (Msteps) (Mwritten))), ((mm 0), .inl (ak 0, 16, .inl (Mstuffs))), ((mm 1), .inl (ak 0, 16, .inl (Mtwins))), ((mm 2), .inl (ak 0, 16, .inl (Mworn)))]) hP hD hS hA [] [0, 1, 2, 3] rfl rfl (by decide) (by decide) (va_runSN (As := [.int (Mnext), .int (Pln)]) (rest := []) ⟨hx, hb, hml, hown, hts⟩ (c_X7_within l D ak ad _ Mnext Pln _ hw) ⟨va_cnB 2 hts gX1_fallIfHole_X7_within_n95 rfl rfl rfl (hE.2.2.2.1 _ (List.mem_of_getElem? (i := 3) rfl)) (hts (.initialized RX7) (wm_c hw_324)) (by decide +kernel) ⟨(Nat.le_trans (Nat.le_of_ble_eq_true rfl) hRf), (Nat.le_trans (Nat.le_of_ble_eq_true rfl) hRl)⟩, (hts (.static yX7_within) (wm_c hw_325)), trivial⟩ (kc_pre (As := [.int (Mnext), .int (Pln)]) (wc := []) hE hT hP hD hS hA [] (by decide) rfl rfl) rfl rfl hl.1 rfl (lv_room (Nat.le_of_ble_eq_true rfl)) dX1_fallIfHole_26 ⟨hRc.1, hRc.2⟩) (fun r_4 u_3 H locs hw hP hD hS => ?_)
      try dsimp -zeta only at hw
      have hP : va_P D vwCl (wW_X1_fallIfHole ak ad h mm pg Mway Mstate Mnext Msteps Mwritten Mstuffs Mtwins Mworn) H := hP.sub [0, 1, 2, 3] rfl
      have hD : va_D A (wW_X1_fallIfHole ak ad h mm pg Mway Mstate Mnext Msteps Mwritten Mstuffs Mtwins Mworn) := hD.sub [0, 1, 2, 3] (by decide) rfl
      refine lv_if_eq (tgt := 57) hx hb dX1_fallIfHole_29 (by decide) (fun c_5 => ?_) (fun c_5 => ?_)
      · replace hw := hw.1 c_5
        exact kR57 Mstate _ _ _ hw hP hD hS
      · replace hw := hw.2 c_5
        refine lv_aload_n hx hb dX1_fallIfHole_32 rfl (lv_at hl 0 rfl) ?_
        refine vt_get (D := D) (ci := 1) (v := .ref (mm 2)) (C := RX1) (T := TX1) (N := 12) hx hb hts (fun w h => wm_c (wc_X1 w h)) hown hE.1 hP 0 rfl rfl 3 (by decide) tX1_3 (hts (.fieldLink RX1 18 "WornLines$Machine" "worn" "[I") (wm_c hw_296)) (fun _ h9 => h9) rfl dX1_fallIfHole_33 ?_
        refine lv_aload_n hx hb dX1_fallIfHole_36 rfl (lv_at hl 0 rfl) ?_
        refine vt_get (D := D) (ci := 1) (v := .int (Mnext)) (C := RX1) (T := TX1) (N := 12) hx hb hts (fun w h => wm_c (wc_X1 w h)) hown hE.1 hP 0 rfl rfl 9 (by decide) tX1_9 (hts (.fieldLink RX1 58 "WornLines$Machine" "next" "I") (wm_c hw_323)) (fun _ h9 => h9) rfl dX1_fallIfHole_37 ?_
        obtain ⟨h_6, hw⟩ := hw
        refine va_iald hx hb hE.1 hP 3 0 rfl rfl (h_6) dX1_fallIfHole_40 ?_
        refine lv_aload_n hx hb dX1_fallIfHole_41 rfl (lv_at hl 0 rfl) ?_
        refine lv_aload_n hx hb dX1_fallIfHole_42 rfl (lv_at hl 0 rfl) ?_
        refine vt_get (D := D) (ci := 1) (v := .int (Mnext)) (C := RX1) (T := TX1) (N := 12) hx hb hts (fun w h => wm_c (wc_X1 w h)) hown hE.1 hP 0 rfl rfl 9 (by decide) tX1_9 (hts (.fieldLink RX1 58 "WornLines$Machine" "next" "I") (wm_c hw_323)) (fun _ h9 => h9) rfl dX1_fallIfHole_43 ?_
        refine kc_i (wc := (wW_X1_bearing ak ad h mm pg Mway Mstate Mnext Msteps Mwritten Mstuffs Mtwins)) (wr := [((mm 2), .inl (ak 0, 16, .inl (Mworn)))]) hP hD hS hA [0, 1, 2] [3] rfl rfl (by decide) (by decide) (va_runV (As := [.int (Mnext)]) (rest := [.int (Mworn (Mnext).toNatClampNeg)]) ⟨hx, hb, hml, hown, hts⟩ (c_X1_bearing l D ak ad _ h mm pg pa Mway Mstate Mnext Msteps Mwritten Mstuffs Mtwins Pst Pce Pgi Pln Pbears Mnext _ hw) (cwV 1 hts gX1_fallIfHole_X1_bearing rfl rfl rfl hv_X1_bearing ⟨(Nat.le_trans (Nat.le_of_ble_eq_true rfl) hRf), (Nat.le_trans (Nat.le_of_ble_eq_true rfl) hRl)⟩) (kc_preVK (As := [.int (Mnext)]) (wc := (wW_X1_bearing ak ad h mm pg Mway Mstate Mnext Msteps Mwritten Mstuffs Mtwins)) (ck := (wK_X1_bearing ak ad pg pa Pst Pce Pgi Pln Pbears)) hKT hE hT hP hD hS hA [0, 1, 2] [0, 1] (by decide) rfl rfl rfl hP 0 1 rfl rfl rfl) rfl rfl hl.1 rfl (lv_room (Nat.le_of_ble_eq_true rfl)) dX1_fallIfHole_46 ⟨hRc.1, hRc.2⟩) (fun r_8 u_7 H locs hw hP hD hS => ?_)
        try dsimp -zeta only at hw
        have hP : va_P D vwCl (wW_X1_fallIfHole ak ad h mm pg Mway Mstate Mnext Msteps Mwritten Mstuffs Mtwins Mworn) H := hP.sub [1, 2, 3, 0] rfl
        have hD : va_D A (wW_X1_fallIfHole ak ad h mm pg Mway Mstate Mnext Msteps Mwritten Mstuffs Mtwins Mworn) := hD.sub [1, 2, 3, 0] (by decide) rfl
        refine lv_icmp_lt (tgt := 57) hx hb dX1_fallIfHole_49 (by decide) (fun c_9 => ?_) (fun c_9 => ?_)
        · replace hw := hw.1 c_9
          exact kR57 Mstate _ _ _ hw hP hD hS
        · replace hw := hw.2 c_9
          refine lv_aload_n hx hb dX1_fallIfHole_52 rfl (lv_at hl 0 rfl) ?_
          refine lv_iconst (v := 3) hx hb dX1_fallIfHole_53 (by decide) ?_
          refine vt_put (D := D) (ci := 1) (v := .int (3)) (ty := .int) (C := RX1) (T := TX1) (N := 12) hx hb hts (fun w h => wm_c (wc_X1 w h)) tyX1 tyX1_ok nmX1 hown hE.1 hP hD hS 0 rfl rfl 8 (by decide) tX1_8 (hts (.fieldLink RX1 31 "WornLines$Machine" "state" "I") (wm_c hw_300)) (fun _ h9 => h9) rfl pf_0 (rfl) rfl (Nat.le_of_ble_eq_true rfl) dX1_fallIfHole_54 (fun H locs hP hD hS => ?_)
          have hP : va_P D vwCl (wW_X1_fallIfHole ak ad h mm pg Mway 3 Mnext Msteps Mwritten Mstuffs Mtwins Mworn) H := hP
          have hD : va_D A (wW_X1_fallIfHole ak ad h mm pg Mway 3 Mnext Msteps Mwritten Mstuffs Mtwins Mworn) := hD
          exact kR57 3 _ _ _ hw hP hD hS
set_option maxHeartbeats 4000000 in
set_option maxRecDepth 100000 in
theorem c_X1_fallIfHole (l : Launch) (D : va_G) (ak : Nat → ClassId) (ad : Nat → Nat) (sz : Nat) (h : Nat) (mm : Nat → Nat) (pg : Nat) (pa : Nat → Nat) (Mway : Int32) (Mstate : Int32) (Mnext : Int32) (Msteps : Int32) (Mwritten : Int32) (Mstuffs : Nat → Int32) (Mtwins : Nat → Int32) (Mworn : Nat → Int32) (Pst : Int32) (Pce : Int32) (Pgi : Int32) (Pln : Int32) (Pbears : Nat → Int32) (Φ : Int32 → Prop) (hf : wp_X1_fallIfHole Mway Mnext Mstuffs Mtwins Mworn Pln Pbears Mstate Φ) : Met l yX1_fallIfHole wsX1_fallIfHole ({ frames := 1, cells := 0, slots := 0, locals := 21 }) (cPreK D ak ad [.ref h] ((wW_X1_fallIfHole ak ad h mm pg Mway Mstate Mnext Msteps Mwritten Mstuffs Mtwins Mworn)) sz ((wK_X1_fallIfHole ak ad pg pa Pst Pce Pgi Pln Pbears))) (cV D (S := (Int32)) (fun (u : (Int32)) => Φ u) (fun u => (wW_X1_fallIfHole ak ad h mm pg Mway u Mnext Msteps Mwritten Mstuffs Mtwins Mworn)) ((wW_X1_fallIfHole ak ad h mm pg Mway Mstate Mnext Msteps Mwritten Mstuffs Mtwins Mworn)) sz) 0 0 (va_A ((wW_X1_fallIfHole ak ad h mm pg Mway Mstate Mnext Msteps Mwritten Mstuffs Mtwins Mworn)) sz) := by
  refine Met.ofW (cc := cX1_fallIfHole) (maxL := 1) (ret := none) (by decide) rfl ?_
  intro p e s m args below meth c s₁ B hml hv
  obtain ⟨⟨rfl, hsz, hP, hE, hD0, hT⟩, hKT⟩ := hv
  have hx := B.exec
  have hb := B.bytes
  have hr := B.returns
  have hts := atoms_spec (ws := wsX1_fallIfHole) B.pre
  have hown : s.vm.findClass RX1 = some m.cls := findClass_of_methodNamed B.named
  have hlocks := B.notSynchronized
  subst hsz
  have hD := hD0.self (sz := s.heap.size)
  generalize hAe : va_A ((wW_X1_fallIfHole ak ad h mm pg Mway Mstate Mnext Msteps Mwritten Mstuffs Mtwins Mworn)) s.heap.size = A at hD hT hKT ⊢
  have hA : ∀ q : Nat, s.heap.size ≤ q → A q := fun q h => by rw [← hAe]; exact Or.inr h
  have hS : va_S A s.heap s.heap [] := va_S.rf
  have hl := lv_entry ([.ref h]) (n := 1) (Nat.le_of_ble_eq_true rfl)
  rw [lg_entry_eq]
  generalize (lg_sl ([.ref h]) ++ List.replicate (1 - (lg_sl ([.ref h])).length) Slot.unset).toArray = ls at hl ⊢
  have hl : lv_has ls 1 [(0, .ref h)] := hl
  exact kj_X1_fallIfHole_e hx hb hown hts hml hE hT hA (Nat.le_of_ble_eq_true rfl) (Nat.le_of_ble_eq_true rfl) ⟨Nat.le_of_ble_eq_true rfl, Nat.le_of_ble_eq_true rfl⟩ h mm pg pa Mway Mnext Msteps Mwritten Mstuffs Mtwins Mworn Pst Pce Pgi Pln Pbears hKT Φ (fun Mstate H locs ls hw hP hD hS => W.vret hx hb hr (fun t ht hW => ⟨⟨Mstate, rfl, hw, by rw [ht]; exact hP, by rw [hAe]; exact hD⟩, by rw [hAe]; exact hS.F ht⟩) hS.2.2 dX1_fallIfHole_57) Mstate _ _ _ hf hP hD hS hl

def wW_X1_start (ak : Nat → ClassId) (ad : Nat → Nat) (h : Nat) (mm : Nat → Nat) (pg : Nat) (Mway : Int32) (Mstate : Int32) (Mnext : Int32) (Msteps : Int32) (Mwritten : Int32) (Mcells : Nat → Int32) : va_W := [(h, .inr (1, xob mm (pg) (Mway) (Mstate) (Mnext) (Msteps) (Mwritten))), ((mm 3), .inl (ak 0, 6, .inl (Mcells)))]
def wK_X1_start (ak : Nat → ClassId) (ad : Nat → Nat) (pg : Nat) (pa : Nat → Nat) (Pst : Int32) (Pce : Int32) (Pgi : Int32) (Pln : Int32) (Ptold : Nat → Int32) (PgivenC : Nat → Int32) (Pleast : Nat → Int32) (Pgreat : Nat → Int32) : va_W := [(pg, .inr (2, pob pa (Pst) (Pce) (Pgi) (Pln))), ((pa 2), .inl (ak 0, 6, .inl (Ptold))), ((pa 3), .inl (ak 0, 2, .inl (PgivenC))), ((pa 4), .inl (ak 0, 2, .inl (Pleast))), ((pa 5), .inl (ak 0, 2, .inl (Pgreat)))]
def lb_X1_start_2 (Pce : Int32) (Pgi : Int32) (Ptold : Nat → Int32) (PgivenC : Nat → Int32) (Pleast : Nat → Int32) (Pgreat : Nat → Int32) (xi : Int32)  (Φ : Int32 → Int32 → Int32 → Int32 → (Nat → Int32) → Prop) (back : Int32 → Int32 → Int32 → Int32 → (Nat → Int32) → Int32 → Prop) (Mstate : Int32) (Mnext : Int32) (Msteps : Int32) (Mwritten : Int32) (Mcells : Nat → Int32) (l2 : Int32) : Prop := (Pce ≤ l2 → Φ 1 0 0 0 Mcells) ∧ (¬ Pce ≤ l2 → wp_X2_atFirst Pgi Ptold PgivenC Pleast Pgreat xi l2 (fun r_3 => vp_in l2 6 ∧ back Mstate Mnext Msteps Mwritten (upd Mcells (l2).toNatClampNeg r_3) (l2 + 1)))
def lf_X1_start_2 (Pce : Int32) (Pgi : Int32) (Ptold : Nat → Int32) (PgivenC : Nat → Int32) (Pleast : Nat → Int32) (Pgreat : Nat → Int32) (xi : Int32)  (Φ : Int32 → Int32 → Int32 → Int32 → (Nat → Int32) → Prop) : Nat → Int32 → Int32 → Int32 → Int32 → (Nat → Int32) → Int32 → Prop
  | 0, _, _, _, _, _, _ => False
  | n_ + 1, Mstate, Mnext, Msteps, Mwritten, Mcells, l2 => lb_X1_start_2 Pce Pgi Ptold PgivenC Pleast Pgreat xi  Φ (lf_X1_start_2 Pce Pgi Ptold PgivenC Pleast Pgreat xi  Φ n_) Mstate Mnext Msteps Mwritten Mcells l2
theorem li_X1_start_2 (Pce : Int32) (Pgi : Int32) (Ptold : Nat → Int32) (PgivenC : Nat → Int32) (Pleast : Nat → Int32) (Pgreat : Nat → Int32) (xi : Int32)  (Φ : Int32 → Int32 → Int32 → Int32 → (Nat → Int32) → Prop) (Inv : Int32 → Int32 → Int32 → Int32 → (Nat → Int32) → Int32 → Prop) (mu : Int32 → Int32 → Int32 → Int32 → (Nat → Int32) → Int32 → Nat) (hs : ∀ (back : Int32 → Int32 → Int32 → Int32 → (Nat → Int32) → Int32 → Prop) (Mstate : Int32) (Mnext : Int32) (Msteps : Int32) (Mwritten : Int32) (Mcells : Nat → Int32) (l2 : Int32), Inv Mstate Mnext Msteps Mwritten Mcells l2 → (∀ (Mstate' : Int32) (Mnext' : Int32) (Msteps' : Int32) (Mwritten' : Int32) (Mcells' : Nat → Int32) (l2' : Int32), Inv Mstate' Mnext' Msteps' Mwritten' Mcells' l2' → mu Mstate' Mnext' Msteps' Mwritten' Mcells' l2' < mu Mstate Mnext Msteps Mwritten Mcells l2 → back Mstate' Mnext' Msteps' Mwritten' Mcells' l2') → lb_X1_start_2 Pce Pgi Ptold PgivenC Pleast Pgreat xi  Φ back Mstate Mnext Msteps Mwritten Mcells l2) : ∀ (n_ : Nat) (Mstate : Int32) (Mnext : Int32) (Msteps : Int32) (Mwritten : Int32) (Mcells : Nat → Int32) (l2 : Int32), Inv Mstate Mnext Msteps Mwritten Mcells l2 → mu Mstate Mnext Msteps Mwritten Mcells l2 < n_ → lf_X1_start_2 Pce Pgi Ptold PgivenC Pleast Pgreat xi  Φ n_ Mstate Mnext Msteps Mwritten Mcells l2 := by
  intro n_
  induction n_ with
  | zero => intro Mstate Mnext Msteps Mwritten Mcells l2 _ h; exact absurd h (Nat.not_lt_zero _)
  | succ n_ ih => intro Mstate Mnext Msteps Mwritten Mcells l2 hI hm; exact hs _ Mstate Mnext Msteps Mwritten Mcells l2 hI (fun Mstate' Mnext' Msteps' Mwritten' Mcells' l2' h1 h2 => ih Mstate' Mnext' Msteps' Mwritten' Mcells' l2' h1 (by omega))
set_option maxHeartbeats 4000000 in
set_option maxRecDepth 100000 in
theorem lp_X1_start_2 {p : Program} {l : Launch} {e : Env} {R : Room} {s : State} {m : MethodId} {args : Array Value} {below : List Frame} {meth : Method} {c : Code} {cells slots : Nat} {Q : State → Prop} {A : Nat → Prop} {D : va_G} {ak : Nat → ClassId} {ad : Nat → Nat} (hx : p.tables.exec = Jvm.exec) (hb : c.code = cX1_start) (hown : s.vm.findClass RX1 = some m.cls) (hts : ∀ w ∈ wsX1_start, w.before args s = true) (hml : c.maxLocals = 3) (hE : EV D ak s) (hT : ST D ak ad A s s.heap) (hA : ∀ q, s.heap.size ≤ q → A q) (hRf : 3 ≤ R.frames) (hRl : 60 ≤ R.locals) (hRc : cells ≤ R.cells ∧ slots ≤ R.slots) (h : Nat) (mm : Nat → Nat) (pg : Nat) (pa : Nat → Nat) (Mway : Int32) (Pst : Int32) (Pce : Int32) (Pgi : Int32) (Pln : Int32) (Ptold : Nat → Int32) (PgivenC : Nat → Int32) (Pleast : Nat → Int32) (Pgreat : Nat → Int32) (xi : Int32) (hKT : KT D A (wK_X1_start ak ad pg pa Pst Pce Pgi Pln Ptold PgivenC Pleast Pgreat) s.heap)  (Φ : Int32 → Int32 → Int32 → Int32 → (Nat → Int32) → Prop)
    (kR54 : ∀ (Mstate : Int32) (Mnext : Int32) (Msteps : Int32) (Mwritten : Int32) (Mcells : Nat → Int32) (H : Heap) (locs : List Loc) (ls : Array Slot), Φ Mstate Mnext Msteps Mwritten Mcells → va_P D vwCl (wW_X1_start ak ad h mm pg Mway Mstate Mnext Msteps Mwritten Mcells) H → va_D A (wW_X1_start ak ad h mm pg Mway Mstate Mnext Msteps Mwritten Mcells) → va_S A s.heap H locs → W p l e R s m args below meth c H locs cells slots Q (F0 m 54 ls []))
    : ∀ (n_ : Nat) (Mstate : Int32) (Mnext : Int32) (Msteps : Int32) (Mwritten : Int32) (Mcells : Nat → Int32) (l2 : Int32) (H : Heap) (locs : List Loc) (ls : Array Slot), lf_X1_start_2 Pce Pgi Ptold PgivenC Pleast Pgreat xi  Φ n_ Mstate Mnext Msteps Mwritten Mcells l2 → va_P D vwCl (wW_X1_start ak ad h mm pg Mway Mstate Mnext Msteps Mwritten Mcells) H → va_D A (wW_X1_start ak ad h mm pg Mway Mstate Mnext Msteps Mwritten Mcells) → va_S A s.heap H locs → lv_has ls 3 [(0, .ref h), (1, .int (xi)), (2, .int (l2))] → W p l e R s m args below meth c H locs cells slots Q (F0 m 2 ls ([])) := by
  have hCW : ∀ {H : Heap} {locs : List Loc}, va_S A s.heap H locs → va_P D vwCl (wK_X1_start ak ad pg pa Pst Pce Pgi Pln Ptold PgivenC Pleast Pgreat) H := fun hS => (hKT.kept hS.2.1).1
  intro n_
  induction n_ with
  | zero =>
    intro Mstate Mnext Msteps Mwritten Mcells l2 H locs ls hw
    exact hw.elim
  | succ n_ ih =>
    intro Mstate Mnext Msteps Mwritten Mcells l2 H locs ls hw hP hD hS hl
    have hw : lb_X1_start_2 Pce Pgi Ptold PgivenC Pleast Pgreat xi  Φ (lf_X1_start_2 Pce Pgi Ptold PgivenC Pleast Pgreat xi  Φ n_) Mstate Mnext Msteps Mwritten Mcells l2 := hw
    delta lb_X1_start_2 at hw
    refine lv_iload_n hx hb dX1_start_2 rfl (lv_at hl 2 rfl) ?_
    refine lv_aload_n hx hb dX1_start_3 rfl (lv_at hl 0 rfl) ?_
    refine vt_get (D := D) (ci := 1) (v := .ref pg) (C := RX1) (T := TX1) (N := 12) hx hb hts (fun w h => wm_c (wc_X1 w h)) hown hE.1 hP 0 rfl rfl 0 (by decide) tX1_0 (hts (.fieldLink RX1 34 "WornLines$Machine" "programme" "LWornLines$Programme;") (wm_c hw_301)) (fun _ h9 => h9) rfl dX1_start_4 ?_
    refine vt_get (D := D) (ci := 2) (v := .int (Pce)) (C := RX2) (T := TX2) (N := 17) hx hb hts (fun w h => wm_c (wc_X2 w h)) hown hE.1 (hCW hS) 0 rfl rfl 3 (by decide) tX2_3 (hts (.fieldLink RX1 77 "WornLines$Programme" "cells" "I") (wm_c hw_326)) (fun _ h9 => h9) rfl dX1_start_7 ?_
    refine lv_icmp_ge (tgt := 34) hx hb dX1_start_10 (by decide) (fun c_1 => ?_) (fun c_1 => ?_)
    · replace hw := hw.1 c_1
      refine lv_aload_n hx hb dX1_start_34 rfl (lv_at hl 0 rfl) ?_
      refine lv_iconst (v := 1) hx hb dX1_start_35 (by decide) ?_
      refine vt_put (D := D) (ci := 1) (v := .int (1)) (ty := .int) (C := RX1) (T := TX1) (N := 12) hx hb hts (fun w h => wm_c (wc_X1 w h)) tyX1 tyX1_ok nmX1 hown hE.1 hP hD hS 0 rfl rfl 8 (by decide) tX1_8 (hts (.fieldLink RX1 31 "WornLines$Machine" "state" "I") (wm_c hw_300)) (fun _ h9 => h9) rfl pf_0 (rfl) rfl (Nat.le_of_ble_eq_true rfl) dX1_start_36 (fun H locs hP hD hS => ?_)
      have hP : va_P D vwCl (wW_X1_start ak ad h mm pg Mway 1 Mnext Msteps Mwritten Mcells) H := hP
      have hD : va_D A (wW_X1_start ak ad h mm pg Mway 1 Mnext Msteps Mwritten Mcells) := hD
      refine lv_aload_n hx hb dX1_start_39 rfl (lv_at hl 0 rfl) ?_
      refine lv_iconst (v := 0) hx hb dX1_start_40 (by decide) ?_
      refine vt_put (D := D) (ci := 1) (v := .int (0)) (ty := .int) (C := RX1) (T := TX1) (N := 12) hx hb hts (fun w h => wm_c (wc_X1 w h)) tyX1 tyX1_ok nmX1 hown hE.1 hP hD hS 0 rfl rfl 9 (by decide) tX1_9 (hts (.fieldLink RX1 58 "WornLines$Machine" "next" "I") (wm_c hw_323)) (fun _ h9 => h9) rfl pf_0 (rfl) rfl (Nat.le_of_ble_eq_true rfl) dX1_start_41 (fun H locs hP hD hS => ?_)
      have hP : va_P D vwCl (wW_X1_start ak ad h mm pg Mway 1 0 Msteps Mwritten Mcells) H := hP
      have hD : va_D A (wW_X1_start ak ad h mm pg Mway 1 0 Msteps Mwritten Mcells) := hD
      refine lv_aload_n hx hb dX1_start_44 rfl (lv_at hl 0 rfl) ?_
      refine lv_iconst (v := 0) hx hb dX1_start_45 (by decide) ?_
      refine vt_put (D := D) (ci := 1) (v := .int (0)) (ty := .int) (C := RX1) (T := TX1) (N := 12) hx hb hts (fun w h => wm_c (wc_X1 w h)) tyX1 tyX1_ok nmX1 hown hE.1 hP hD hS 0 rfl rfl 10 (by decide) tX1_10 (hts (.fieldLink RX1 61 "WornLines$Machine" "steps" "I") (wm_c hw_327)) (fun _ h9 => h9) rfl pf_0 (rfl) rfl (Nat.le_of_ble_eq_true rfl) dX1_start_46 (fun H locs hP hD hS => ?_)
      have hP : va_P D vwCl (wW_X1_start ak ad h mm pg Mway 1 0 0 Mwritten Mcells) H := hP
      have hD : va_D A (wW_X1_start ak ad h mm pg Mway 1 0 0 Mwritten Mcells) := hD
      refine lv_aload_n hx hb dX1_start_49 rfl (lv_at hl 0 rfl) ?_
      refine lv_iconst (v := 0) hx hb dX1_start_50 (by decide) ?_
      refine va_put (D := D) (ci := 1) (v := .int (0)) (ty := .int) (C := RX1) (T := TX1) (N := 12) hx hb hts (fun w h => wm_c (wc_X1 w h)) tyX1 tyX1_ok nmX1 hown hE.1 hP hD hS 0 rfl rfl 11 (by decide) (hts (.fieldLink RX1 64 "WornLines$Machine" "written" "I") (wm_c hw_320)) (fun _ h9 => h9) rfl pf_0 (rfl) rfl (Nat.le_of_ble_eq_true rfl) dX1_start_51 (fun H locs hP hD hS => ?_)
      have hP : va_P D vwCl (wW_X1_start ak ad h mm pg Mway 1 0 0 0 Mcells) H := hP
      have hD : va_D A (wW_X1_start ak ad h mm pg Mway 1 0 0 0 Mcells) := hD
      exact kR54 1 0 0 0 Mcells _ _ _ hw hP hD hS
    · replace hw := hw.2 c_1
      refine lv_aload_n hx hb dX1_start_13 rfl (lv_at hl 0 rfl) ?_
      refine vt_get (D := D) (ci := 1) (v := .ref (mm 3)) (C := RX1) (T := TX1) (N := 12) hx hb hts (fun w h => wm_c (wc_X1 w h)) hown hE.1 hP 0 rfl rfl 4 (by decide) tX1_4 (hts (.fieldLink RX1 21 "WornLines$Machine" "cells" "[I") (wm_c hw_297)) (fun _ h9 => h9) rfl dX1_start_14 ?_
      refine lv_iload_n hx hb dX1_start_17 rfl (lv_at hl 2 rfl) ?_
      refine lv_aload_n hx hb dX1_start_18 rfl (lv_at hl 0 rfl) ?_
      refine vt_get (D := D) (ci := 1) (v := .ref pg) (C := RX1) (T := TX1) (N := 12) hx hb hts (fun w h => wm_c (wc_X1 w h)) hown hE.1 hP 0 rfl rfl 0 (by decide) tX1_0 (hts (.fieldLink RX1 34 "WornLines$Machine" "programme" "LWornLines$Programme;") (wm_c hw_301)) (fun _ h9 => h9) rfl dX1_start_19 ?_
      refine lv_iload_n hx hb dX1_start_22 rfl (lv_at hl 1 rfl) ?_
      refine lv_iload_n hx hb dX1_start_23 rfl (lv_at hl 2 rfl) ?_
      refine kc_i (wc := []) (wr := [(h, .inr (1, xob mm (pg) (Mway) (Mstate) (Mnext) (Msteps) (Mwritten))), ((mm 3), .inl (ak 0, 6, .inl (Mcells)))]) hP hD hS hA [] [0, 1] rfl rfl (by decide) (by decide) (va_runV (As := [.int (xi), .int (l2)]) (rest := [.int (l2), .ref (mm 3)]) ⟨hx, hb, hml, hown, hts⟩ (c_X2_atFirst l D ak ad _ pg pa Pst Pce Pgi Pln Ptold PgivenC Pleast Pgreat xi l2 _ hw) (cwV 2 hts gX1_start_X2_atFirst rfl rfl rfl hv_X2_atFirst ⟨(Nat.le_trans (Nat.le_of_ble_eq_true rfl) hRf), (Nat.le_trans (Nat.le_of_ble_eq_true rfl) hRl)⟩) (kc_preVK (As := [.int (xi), .int (l2)]) (wc := []) (ck := (wK_X2_atFirst ak ad pg pa Pst Pce Pgi Pln Ptold PgivenC Pleast Pgreat)) hKT hE hT hP hD hS hA [] [0, 1, 2, 3, 4] (by decide) rfl rfl rfl (hCW hS) 0 2 rfl rfl rfl) rfl rfl hl.1 rfl (lv_room (Nat.le_of_ble_eq_true rfl)) dX1_start_24 ⟨hRc.1, hRc.2⟩) (fun r_3 u_2 H locs hw hP hD hS => ?_)
      try dsimp -zeta only at hw
      have hP : va_P D vwCl (wW_X1_start ak ad h mm pg Mway Mstate Mnext Msteps Mwritten Mcells) H := hP.sub [0, 1] rfl
      have hD : va_D A (wW_X1_start ak ad h mm pg Mway Mstate Mnext Msteps Mwritten Mcells) := hD.sub [0, 1] (by decide) rfl
      obtain ⟨h_4, hw⟩ := hw
      refine va_iast hx hb hE.1 hP hD hS 1 0 rfl rfl (h_4) dX1_start_27 (fun H locs hP hD hS => ?_)
      have hP : va_P D vwCl (wW_X1_start ak ad h mm pg Mway Mstate Mnext Msteps Mwritten (upd Mcells (l2).toNatClampNeg r_3)) H := hP
      have hD : va_D A (wW_X1_start ak ad h mm pg Mway Mstate Mnext Msteps Mwritten (upd Mcells (l2).toNatClampNeg r_3)) := hD
      refine lv_iinc (v := (l2 + 1)) (lv' := [(2, .int (l2 + 1)), (0, .ref h), (1, .int (xi))]) hx hb dX1_start_28 hl (k := 2) rfl (rfl) (by decide) rfl (fun ls hl => ?_)
      refine lv_goto (tgt := 2) hx hb dX1_start_31 (by decide) ?_
      exact ih Mstate Mnext Msteps Mwritten (upd Mcells (l2).toNatClampNeg r_3) (l2 + 1) _ _ _ hw hP hD hS (lv_sub hl [1, 2, 0] rfl)

def wp_X1_start (Pce : Int32) (Pgi : Int32) (Ptold : Nat → Int32) (PgivenC : Nat → Int32) (Pleast : Nat → Int32) (Pgreat : Nat → Int32) (xi : Int32) (Mstate : Int32) (Mnext : Int32) (Msteps : Int32) (Mwritten : Int32) (Mcells : Nat → Int32) (Φ : Int32 → Int32 → Int32 → Int32 → (Nat → Int32) → Prop) : Prop := (∃ n_, lf_X1_start_2 Pce Pgi Ptold PgivenC Pleast Pgreat xi  Φ n_ Mstate Mnext Msteps Mwritten Mcells 0)
set_option maxHeartbeats 4000000 in
set_option maxRecDepth 100000 in
theorem kj_X1_start_e {p : Program} {l : Launch} {e : Env} {R : Room} {s : State} {m : MethodId} {args : Array Value} {below : List Frame} {meth : Method} {c : Code} {cells slots : Nat} {Q : State → Prop} {A : Nat → Prop} {D : va_G} {ak : Nat → ClassId} {ad : Nat → Nat} (hx : p.tables.exec = Jvm.exec) (hb : c.code = cX1_start) (hown : s.vm.findClass RX1 = some m.cls) (hts : ∀ w ∈ wsX1_start, w.before args s = true) (hml : c.maxLocals = 3) (hE : EV D ak s) (hT : ST D ak ad A s s.heap) (hA : ∀ q, s.heap.size ≤ q → A q) (hRf : 3 ≤ R.frames) (hRl : 60 ≤ R.locals) (hRc : cells ≤ R.cells ∧ slots ≤ R.slots) (h : Nat) (mm : Nat → Nat) (pg : Nat) (pa : Nat → Nat) (Mway : Int32) (Pst : Int32) (Pce : Int32) (Pgi : Int32) (Pln : Int32) (Ptold : Nat → Int32) (PgivenC : Nat → Int32) (Pleast : Nat → Int32) (Pgreat : Nat → Int32) (xi : Int32) (hKT : KT D A (wK_X1_start ak ad pg pa Pst Pce Pgi Pln Ptold PgivenC Pleast Pgreat) s.heap)  (Φ : Int32 → Int32 → Int32 → Int32 → (Nat → Int32) → Prop)
    (kR54 : ∀ (Mstate : Int32) (Mnext : Int32) (Msteps : Int32) (Mwritten : Int32) (Mcells : Nat → Int32) (H : Heap) (locs : List Loc) (ls : Array Slot), Φ Mstate Mnext Msteps Mwritten Mcells → va_P D vwCl (wW_X1_start ak ad h mm pg Mway Mstate Mnext Msteps Mwritten Mcells) H → va_D A (wW_X1_start ak ad h mm pg Mway Mstate Mnext Msteps Mwritten Mcells) → va_S A s.heap H locs → W p l e R s m args below meth c H locs cells slots Q (F0 m 54 ls []))
    : ∀ (Mstate : Int32) (Mnext : Int32) (Msteps : Int32) (Mwritten : Int32) (Mcells : Nat → Int32) (H : Heap) (locs : List Loc) (ls : Array Slot), wp_X1_start Pce Pgi Ptold PgivenC Pleast Pgreat xi Mstate Mnext Msteps Mwritten Mcells Φ → va_P D vwCl (wW_X1_start ak ad h mm pg Mway Mstate Mnext Msteps Mwritten Mcells) H → va_D A (wW_X1_start ak ad h mm pg Mway Mstate Mnext Msteps Mwritten Mcells) → va_S A s.heap H locs → lv_has ls 3 [(0, .ref h), (1, .int (xi))] → W p l e R s m args below meth c H locs cells slots Q (F0 m 0 ls ([])) := by
  have hCW : ∀ {H : Heap} {locs : List Loc}, va_S A s.heap H locs → va_P D vwCl (wK_X1_start ak ad pg pa Pst Pce Pgi Pln Ptold PgivenC Pleast Pgreat) H := fun hS => (hKT.kept hS.2.1).1
  intro Mstate Mnext Msteps Mwritten Mcells H locs ls hw hP hD hS hl
  delta wp_X1_start at hw
  refine lv_iconst (v := 0) hx hb dX1_start_0 (by decide) ?_
  refine lv_istore_n (lv' := [(2, .int (0)), (0, .ref h), (1, .int (xi))]) hx hb dX1_start_1 rfl hl (by decide) rfl (fun ls hl => ?_)
  obtain ⟨n1_, hw⟩ := hw
  exact lp_X1_start_2 hx hb hown hts hml hE hT hA hRf hRl hRc h mm pg pa Mway Pst Pce Pgi Pln Ptold PgivenC Pleast Pgreat xi hKT  Φ  kR54 n1_ Mstate Mnext Msteps Mwritten Mcells 0 _ _ _ hw hP hD hS (lv_sub hl [1, 2, 0] rfl)
set_option maxHeartbeats 4000000 in
set_option maxRecDepth 100000 in
theorem c_X1_start (l : Launch) (D : va_G) (ak : Nat → ClassId) (ad : Nat → Nat) (sz : Nat) (h : Nat) (mm : Nat → Nat) (pg : Nat) (pa : Nat → Nat) (Mway : Int32) (Mstate : Int32) (Mnext : Int32) (Msteps : Int32) (Mwritten : Int32) (Mcells : Nat → Int32) (Pst : Int32) (Pce : Int32) (Pgi : Int32) (Pln : Int32) (Ptold : Nat → Int32) (PgivenC : Nat → Int32) (Pleast : Nat → Int32) (Pgreat : Nat → Int32) (xi : Int32) (Φ : Int32 → Int32 → Int32 → Int32 → (Nat → Int32) → Prop) (hf : wp_X1_start Pce Pgi Ptold PgivenC Pleast Pgreat xi Mstate Mnext Msteps Mwritten Mcells Φ) : Met l yX1_start wsX1_start ({ frames := 3, cells := 0, slots := 0, locals := 60 }) (cPreK D ak ad [.ref h, .int (xi)] ((wW_X1_start ak ad h mm pg Mway Mstate Mnext Msteps Mwritten Mcells)) sz ((wK_X1_start ak ad pg pa Pst Pce Pgi Pln Ptold PgivenC Pleast Pgreat))) (cV D (S := (Int32) × (Int32) × (Int32) × (Int32) × (Nat → Int32)) (fun (u : (Int32) × (Int32) × (Int32) × (Int32) × (Nat → Int32)) => Φ u.1 u.2.1 u.2.2.1 u.2.2.2.1 u.2.2.2.2) (fun u => (wW_X1_start ak ad h mm pg Mway u.1 u.2.1 u.2.2.1 u.2.2.2.1 u.2.2.2.2)) ((wW_X1_start ak ad h mm pg Mway Mstate Mnext Msteps Mwritten Mcells)) sz) 0 0 (va_A ((wW_X1_start ak ad h mm pg Mway Mstate Mnext Msteps Mwritten Mcells)) sz) := by
  refine Met.ofW (cc := cX1_start) (maxL := 3) (ret := none) (by decide) rfl ?_
  intro p e s m args below meth c s₁ B hml hv
  obtain ⟨⟨rfl, hsz, hP, hE, hD0, hT⟩, hKT⟩ := hv
  have hx := B.exec
  have hb := B.bytes
  have hr := B.returns
  have hts := atoms_spec (ws := wsX1_start) B.pre
  have hown : s.vm.findClass RX1 = some m.cls := findClass_of_methodNamed B.named
  have hlocks := B.notSynchronized
  subst hsz
  have hD := hD0.self (sz := s.heap.size)
  generalize hAe : va_A ((wW_X1_start ak ad h mm pg Mway Mstate Mnext Msteps Mwritten Mcells)) s.heap.size = A at hD hT hKT ⊢
  have hA : ∀ q : Nat, s.heap.size ≤ q → A q := fun q h => by rw [← hAe]; exact Or.inr h
  have hS : va_S A s.heap s.heap [] := va_S.rf
  have hl := lv_entry ([.ref h, .int (xi)]) (n := 3) (Nat.le_of_ble_eq_true rfl)
  rw [lg_entry_eq]
  generalize (lg_sl ([.ref h, .int (xi)]) ++ List.replicate (3 - (lg_sl ([.ref h, .int (xi)])).length) Slot.unset).toArray = ls at hl ⊢
  have hl : lv_has ls 3 [(0, .ref h), (1, .int (xi))] := hl
  exact kj_X1_start_e hx hb hown hts hml hE hT hA (Nat.le_of_ble_eq_true rfl) (Nat.le_of_ble_eq_true rfl) ⟨Nat.le_of_ble_eq_true rfl, Nat.le_of_ble_eq_true rfl⟩ h mm pg pa Mway Pst Pce Pgi Pln Ptold PgivenC Pleast Pgreat xi hKT Φ (fun Mstate Mnext Msteps Mwritten Mcells H locs ls hw hP hD hS => W.vret hx hb hr (fun t ht hW => ⟨⟨(Mstate, Mnext, Msteps, Mwritten, Mcells), rfl, hw, by rw [ht]; exact hP, by rw [hAe]; exact hD⟩, by rw [hAe]; exact hS.F ht⟩) hS.2.2 dX1_start_54) Mstate Mnext Msteps Mwritten Mcells _ _ _ hf hP hD hS hl
