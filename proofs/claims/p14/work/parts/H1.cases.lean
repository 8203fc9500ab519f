theorem dL_law_682 : decode cL_law 682 = .ok (.aload_n 1, 1) := by decide +kernel
theorem dL_law_683 : decode cL_law 683 = .ok (.aload_n 0, 1) := by decide +kernel
theorem dL_law_684 : decode cL_law 684 = .ok (.iload 4, 2) := by decide +kernel
theorem dL_law_686 : decode cL_law 686 = .ok (.iconst 1, 1) := by decide +kernel
theorem dL_law_687 : decode cL_law 687 = .ok (.iadd, 1) := by decide +kernel
theorem dL_law_688 : decode cL_law 688 = .ok (.iaload, 1) := by decide +kernel
theorem dL_law_689 : decode cL_law 689 = .ok (.invokevirtual 90, 3) := by decide +kernel
theorem dL_law_692 : decode cL_law 692 = .ok (.pop, 1) := by decide +kernel
theorem dL_law_693 : decode cL_law 693 = .ok (.aload_n 2, 1) := by decide +kernel
theorem dL_law_694 : decode cL_law 694 = .ok (.aload_n 0, 1) := by decide +kernel
theorem dL_law_695 : decode cL_law 695 = .ok (.iload 4, 2) := by decide +kernel
theorem dL_law_697 : decode cL_law 697 = .ok (.iconst 1, 1) := by decide +kernel
theorem dL_law_698 : decode cL_law 698 = .ok (.iadd, 1) := by decide +kernel
theorem dL_law_699 : decode cL_law 699 = .ok (.iaload, 1) := by decide +kernel
theorem dL_law_700 : decode cL_law 700 = .ok (.invokevirtual 93, 3) := by decide +kernel
theorem dL_law_703 : decode cL_law 703 = .ok (.pop, 1) := by decide +kernel
theorem dL_law_704 : decode cL_law 704 = .ok (.goto 343, 3) := by decide +kernel
theorem dL_law_707 : decode cL_law 707 = .ok (.aload_n 1, 1) := by decide +kernel
theorem dL_law_708 : decode cL_law 708 = .ok (.aload_n 0, 1) := by decide +kernel
theorem dL_law_709 : decode cL_law 709 = .ok (.iload 4, 2) := by decide +kernel
theorem dL_law_711 : decode cL_law 711 = .ok (.iconst 1, 1) := by decide +kernel
theorem dL_law_712 : decode cL_law 712 = .ok (.iadd, 1) := by decide +kernel
theorem dL_law_713 : decode cL_law 713 = .ok (.iaload, 1) := by decide +kernel
theorem dL_law_714 : decode cL_law 714 = .ok (.invokevirtual 94, 3) := by decide +kernel
theorem dL_law_717 : decode cL_law 717 = .ok (.pop, 1) := by decide +kernel
theorem dL_law_718 : decode cL_law 718 = .ok (.aload_n 2, 1) := by decide +kernel
theorem dL_law_719 : decode cL_law 719 = .ok (.aload_n 0, 1) := by decide +kernel
theorem dL_law_720 : decode cL_law 720 = .ok (.iload 4, 2) := by decide +kernel
theorem dL_law_722 : decode cL_law 722 = .ok (.iconst 1, 1) := by decide +kernel
theorem dL_law_723 : decode cL_law 723 = .ok (.iadd, 1) := by decide +kernel
theorem dL_law_724 : decode cL_law 724 = .ok (.iaload, 1) := by decide +kernel
theorem dL_law_725 : decode cL_law 725 = .ok (.invokevirtual 97, 3) := by decide +kernel
theorem dL_law_728 : decode cL_law 728 = .ok (.pop, 1) := by decide +kernel
theorem dL_law_729 : decode cL_law 729 = .ok (.goto 318, 3) := by decide +kernel
theorem dL_law_732 : decode cL_law 732 = .ok (.aload_n 1, 1) := by decide +kernel
theorem dL_law_733 : decode cL_law 733 = .ok (.aload_n 0, 1) := by decide +kernel
theorem dL_law_734 : decode cL_law 734 = .ok (.iload 4, 2) := by decide +kernel
theorem dL_law_736 : decode cL_law 736 = .ok (.iconst 1, 1) := by decide +kernel
theorem dL_law_737 : decode cL_law 737 = .ok (.iadd, 1) := by decide +kernel
theorem dL_law_738 : decode cL_law 738 = .ok (.iaload, 1) := by decide +kernel
theorem dL_law_739 : decode cL_law 739 = .ok (.aload_n 0, 1) := by decide +kernel
theorem dL_law_740 : decode cL_law 740 = .ok (.iload 4, 2) := by decide +kernel
theorem dL_law_742 : decode cL_law 742 = .ok (.iconst 2, 1) := by decide +kernel
theorem dL_law_743 : decode cL_law 743 = .ok (.iadd, 1) := by decide +kernel
theorem dL_law_744 : decode cL_law 744 = .ok (.iaload, 1) := by decide +kernel
theorem dL_law_745 : decode cL_law 745 = .ok (.invokevirtual 98, 3) := by decide +kernel
theorem dL_law_748 : decode cL_law 748 = .ok (.pop, 1) := by decide +kernel
theorem dL_law_749 : decode cL_law 749 = .ok (.aload_n 2, 1) := by decide +kernel
theorem dL_law_750 : decode cL_law 750 = .ok (.aload_n 0, 1) := by decide +kernel
theorem dL_law_751 : decode cL_law 751 = .ok (.iload 4, 2) := by decide +kernel
theorem dL_law_753 : decode cL_law 753 = .ok (.iconst 1, 1) := by decide +kernel
theorem dL_law_754 : decode cL_law 754 = .ok (.iadd, 1) := by decide +kernel
theorem dL_law_755 : decode cL_law 755 = .ok (.iaload, 1) := by decide +kernel
theorem dL_law_756 : decode cL_law 756 = .ok (.aload_n 0, 1) := by decide +kernel
theorem dL_law_757 : decode cL_law 757 = .ok (.iload 4, 2) := by decide +kernel
theorem dL_law_759 : decode cL_law 759 = .ok (.iconst 2, 1) := by decide +kernel
theorem dL_law_760 : decode cL_law 760 = .ok (.iadd, 1) := by decide +kernel
theorem dL_law_761 : decode cL_law 761 = .ok (.iaload, 1) := by decide +kernel
theorem dL_law_762 : decode cL_law 762 = .ok (.invokevirtual 101, 3) := by decide +kernel
theorem dL_law_765 : decode cL_law 765 = .ok (.pop, 1) := by decide +kernel
theorem dL_law_766 : decode cL_law 766 = .ok (.goto 281, 3) := by decide +kernel
theorem dL_law_769 : decode cL_law 769 = .ok (.aload_n 1, 1) := by decide +kernel
theorem dL_law_770 : decode cL_law 770 = .ok (.invokevirtual 102, 3) := by decide +kernel
theorem dL_law_773 : decode cL_law 773 = .ok (.pop, 1) := by decide +kernel
theorem dL_law_774 : decode cL_law 774 = .ok (.aload_n 2, 1) := by decide +kernel
theorem dL_law_775 : decode cL_law 775 = .ok (.invokevirtual 105, 3) := by decide +kernel
theorem dL_law_778 : decode cL_law 778 = .ok (.pop, 1) := by decide +kernel
theorem dL_law_779 : decode cL_law 779 = .ok (.goto 268, 3) := by decide +kernel
theorem dL_law_782 : decode cL_law 782 = .ok (.aload_n 1, 1) := by decide +kernel
theorem dL_law_783 : decode cL_law 783 = .ok (.aload_n 0, 1) := by decide +kernel
theorem dL_law_784 : decode cL_law 784 = .ok (.iload 4, 2) := by decide +kernel
theorem dL_law_786 : decode cL_law 786 = .ok (.iconst 1, 1) := by decide +kernel
theorem dL_law_787 : decode cL_law 787 = .ok (.iadd, 1) := by decide +kernel
theorem dL_law_788 : decode cL_law 788 = .ok (.iaload, 1) := by decide +kernel
theorem dL_law_789 : decode cL_law 789 = .ok (.invokevirtual 106, 3) := by decide +kernel
theorem dL_law_792 : decode cL_law 792 = .ok (.pop, 1) := by decide +kernel
theorem dL_law_793 : decode cL_law 793 = .ok (.aload_n 2, 1) := by decide +kernel
theorem dL_law_794 : decode cL_law 794 = .ok (.aload_n 0, 1) := by decide +kernel
theorem dL_law_795 : decode cL_law 795 = .ok (.iload 4, 2) := by decide +kernel
theorem dL_law_797 : decode cL_law 797 = .ok (.iconst 1, 1) := by decide +kernel
theorem dL_law_798 : decode cL_law 798 = .ok (.iadd, 1) := by decide +kernel
theorem dL_law_799 : decode cL_law 799 = .ok (.iaload, 1) := by decide +kernel
theorem dL_law_800 : decode cL_law 800 = .ok (.invokevirtual 109, 3) := by decide +kernel
theorem dL_law_803 : decode cL_law 803 = .ok (.pop, 1) := by decide +kernel
theorem dL_law_804 : decode cL_law 804 = .ok (.goto 243, 3) := by decide +kernel
theorem dL_law_807 : decode cL_law 807 = .ok (.aload_n 1, 1) := by decide +kernel
theorem dL_law_808 : decode cL_law 808 = .ok (.invokevirtual 110, 3) := by decide +kernel
theorem dL_law_811 : decode cL_law 811 = .ok (.pop, 1) := by decide +kernel
theorem dL_law_812 : decode cL_law 812 = .ok (.aload_n 2, 1) := by decide +kernel
theorem dL_law_813 : decode cL_law 813 = .ok (.invokevirtual 113, 3) := by decide +kernel
theorem dL_law_816 : decode cL_law 816 = .ok (.pop, 1) := by decide +kernel
theorem dL_law_817 : decode cL_law 817 = .ok (.goto 230, 3) := by decide +kernel
theorem dL_law_820 : decode cL_law 820 = .ok (.aload_n 1, 1) := by decide +kernel
theorem dL_law_821 : decode cL_law 821 = .ok (.aload_n 0, 1) := by decide +kernel
theorem dL_law_822 : decode cL_law 822 = .ok (.iload 4, 2) := by decide +kernel
theorem dL_law_824 : decode cL_law 824 = .ok (.iconst 1, 1) := by decide +kernel
theorem dL_law_825 : decode cL_law 825 = .ok (.iadd, 1) := by decide +kernel
theorem dL_law_826 : decode cL_law 826 = .ok (.iaload, 1) := by decide +kernel
theorem dL_law_827 : decode cL_law 827 = .ok (.invokevirtual 114, 3) := by decide +kernel
theorem dL_law_830 : decode cL_law 830 = .ok (.pop, 1) := by decide +kernel
theorem dL_law_831 : decode cL_law 831 = .ok (.aload_n 2, 1) := by decide +kernel
theorem dL_law_832 : decode cL_law 832 = .ok (.aload_n 0, 1) := by decide +kernel
theorem dL_law_833 : decode cL_law 833 = .ok (.iload 4, 2) := by decide +kernel
theorem dL_law_835 : decode cL_law 835 = .ok (.iconst 1, 1) := by decide +kernel
theorem dL_law_836 : decode cL_law 836 = .ok (.iadd, 1) := by decide +kernel
theorem dL_law_837 : decode cL_law 837 = .ok (.iaload, 1) := by decide +kernel
theorem dL_law_838 : decode cL_law 838 = .ok (.invokevirtual 117, 3) := by decide +kernel
theorem dL_law_841 : decode cL_law 841 = .ok (.pop, 1) := by decide +kernel
theorem dL_law_842 : decode cL_law 842 = .ok (.goto 205, 3) := by decide +kernel
theorem dL_law_845 : decode cL_law 845 = .ok (.aload_n 1, 1) := by decide +kernel
theorem dL_law_846 : decode cL_law 846 = .ok (.aload_n 0, 1) := by decide +kernel
theorem dL_law_847 : decode cL_law 847 = .ok (.iload 4, 2) := by decide +kernel
theorem dL_law_849 : decode cL_law 849 = .ok (.iconst 1, 1) := by decide +kernel
theorem dL_law_850 : decode cL_law 850 = .ok (.iadd, 1) := by decide +kernel
theorem dL_law_851 : decode cL_law 851 = .ok (.iaload, 1) := by decide +kernel
theorem dL_law_852 : decode cL_law 852 = .ok (.invokevirtual 118, 3) := by decide +kernel
theorem dL_law_855 : decode cL_law 855 = .ok (.pop, 1) := by decide +kernel
theorem dL_law_856 : decode cL_law 856 = .ok (.aload_n 2, 1) := by decide +kernel
theorem dL_law_857 : decode cL_law 857 = .ok (.aload_n 0, 1) := by decide +kernel
theorem dL_law_858 : decode cL_law 858 = .ok (.iload 4, 2) := by decide +kernel
theorem dL_law_860 : decode cL_law 860 = .ok (.iconst 1, 1) := by decide +kernel
theorem dL_law_861 : decode cL_law 861 = .ok (.iadd, 1) := by decide +kernel
theorem dL_law_862 : decode cL_law 862 = .ok (.iaload, 1) := by decide +kernel
theorem dL_law_863 : decode cL_law 863 = .ok (.invokevirtual 121, 3) := by decide +kernel
theorem dL_law_866 : decode cL_law 866 = .ok (.pop, 1) := by decide +kernel
theorem dL_law_867 : decode cL_law 867 = .ok (.goto 180, 3) := by decide +kernel
theorem dL_law_870 : decode cL_law 870 = .ok (.aload_n 1, 1) := by decide +kernel
theorem dL_law_871 : decode cL_law 871 = .ok (.aload_n 0, 1) := by decide +kernel
theorem dL_law_872 : decode cL_law 872 = .ok (.iload 4, 2) := by decide +kernel
theorem dL_law_874 : decode cL_law 874 = .ok (.iconst 1, 1) := by decide +kernel
theorem dL_law_875 : decode cL_law 875 = .ok (.iadd, 1) := by decide +kernel
theorem dL_law_876 : decode cL_law 876 = .ok (.iaload, 1) := by decide +kernel
theorem dL_law_877 : decode cL_law 877 = .ok (.aload_n 0, 1) := by decide +kernel
theorem dL_law_878 : decode cL_law 878 = .ok (.iload 4, 2) := by decide +kernel
theorem dL_law_880 : decode cL_law 880 = .ok (.iconst 2, 1) := by decide +kernel
theorem dL_law_881 : decode cL_law 881 = .ok (.iadd, 1) := by decide +kernel
theorem dL_law_882 : decode cL_law 882 = .ok (.iaload, 1) := by decide +kernel
theorem dL_law_883 : decode cL_law 883 = .ok (.aload_n 0, 1) := by decide +kernel
theorem dL_law_884 : decode cL_law 884 = .ok (.iload 4, 2) := by decide +kernel
theorem dL_law_886 : decode cL_law 886 = .ok (.iconst 3, 1) := by decide +kernel
theorem dL_law_887 : decode cL_law 887 = .ok (.iadd, 1) := by decide +kernel
theorem dL_law_888 : decode cL_law 888 = .ok (.iaload, 1) := by decide +kernel
theorem dL_law_889 : decode cL_law 889 = .ok (.invokevirtual 122, 3) := by decide +kernel
theorem dL_law_892 : decode cL_law 892 = .ok (.pop, 1) := by decide +kernel
theorem dL_law_893 : decode cL_law 893 = .ok (.aload_n 2, 1) := by decide +kernel
theorem dL_law_894 : decode cL_law 894 = .ok (.aload_n 0, 1) := by decide +kernel
theorem dL_law_895 : decode cL_law 895 = .ok (.iload 4, 2) := by decide +kernel
theorem dL_law_897 : decode cL_law 897 = .ok (.iconst 1, 1) := by decide +kernel
theorem dL_law_898 : decode cL_law 898 = .ok (.iadd, 1) := by decide +kernel
theorem dL_law_899 : decode cL_law 899 = .ok (.iaload, 1) := by decide +kernel
theorem dL_law_900 : decode cL_law 900 = .ok (.aload_n 0, 1) := by decide +kernel
theorem dL_law_901 : decode cL_law 901 = .ok (.iload 4, 2) := by decide +kernel
theorem dL_law_903 : decode cL_law 903 = .ok (.iconst 2, 1) := by decide +kernel
theorem dL_law_904 : decode cL_law 904 = .ok (.iadd, 1) := by decide +kernel
theorem dL_law_905 : decode cL_law 905 = .ok (.iaload, 1) := by decide +kernel
theorem dL_law_906 : decode cL_law 906 = .ok (.aload_n 0, 1) := by decide +kernel
theorem dL_law_907 : decode cL_law 907 = .ok (.iload 4, 2) := by decide +kernel
theorem dL_law_909 : decode cL_law 909 = .ok (.iconst 3, 1) := by decide +kernel
theorem dL_law_910 : decode cL_law 910 = .ok (.iadd, 1) := by decide +kernel
theorem dL_law_911 : decode cL_law 911 = .ok (.iaload, 1) := by decide +kernel
theorem dL_law_912 : decode cL_law 912 = .ok (.invokevirtual 126, 3) := by decide +kernel
theorem dL_law_915 : decode cL_law 915 = .ok (.pop, 1) := by decide +kernel
theorem dL_law_916 : decode cL_law 916 = .ok (.goto 131, 3) := by decide +kernel
theorem dL_law_919 : decode cL_law 919 = .ok (.aload_n 1, 1) := by decide +kernel
theorem dL_law_920 : decode cL_law 920 = .ok (.aload_n 0, 1) := by decide +kernel
theorem dL_law_921 : decode cL_law 921 = .ok (.iload 4, 2) := by decide +kernel
theorem dL_law_923 : decode cL_law 923 = .ok (.iconst 1, 1) := by decide +kernel
theorem dL_law_924 : decode cL_law 924 = .ok (.iadd, 1) := by decide +kernel
theorem dL_law_925 : decode cL_law 925 = .ok (.iaload, 1) := by decide +kernel
theorem dL_law_926 : decode cL_law 926 = .ok (.invokevirtual 127, 3) := by decide +kernel
theorem dL_law_929 : decode cL_law 929 = .ok (.pop, 1) := by decide +kernel
theorem dL_law_930 : decode cL_law 930 = .ok (.aload_n 2, 1) := by decide +kernel
theorem dL_law_931 : decode cL_law 931 = .ok (.aload_n 0, 1) := by decide +kernel
theorem dL_law_932 : decode cL_law 932 = .ok (.iload 4, 2) := by decide +kernel
theorem dL_law_934 : decode cL_law 934 = .ok (.iconst 1, 1) := by decide +kernel
theorem dL_law_935 : decode cL_law 935 = .ok (.iadd, 1) := by decide +kernel
theorem dL_law_936 : decode cL_law 936 = .ok (.iaload, 1) := by decide +kernel
theorem dL_law_937 : decode cL_law 937 = .ok (.invokevirtual 130, 3) := by decide +kernel
theorem dL_law_940 : decode cL_law 940 = .ok (.pop, 1) := by decide +kernel
theorem dL_law_941 : decode cL_law 941 = .ok (.goto 106, 3) := by decide +kernel
theorem dL_law_1022 : decode cL_law 1022 = .ok (.aload_n 1, 1) := by decide +kernel
theorem dL_law_1023 : decode cL_law 1023 = .ok (.aload_n 0, 1) := by decide +kernel
theorem dL_law_1024 : decode cL_law 1024 = .ok (.iload 4, 2) := by decide +kernel
theorem dL_law_1026 : decode cL_law 1026 = .ok (.iconst 1, 1) := by decide +kernel
theorem dL_law_1027 : decode cL_law 1027 = .ok (.iadd, 1) := by decide +kernel
theorem dL_law_1028 : decode cL_law 1028 = .ok (.iaload, 1) := by decide +kernel
theorem dL_law_1029 : decode cL_law 1029 = .ok (.invokevirtual 140, 3) := by decide +kernel
theorem dL_law_1032 : decode cL_law 1032 = .ok (.pop, 1) := by decide +kernel
theorem dL_law_1033 : decode cL_law 1033 = .ok (.aload_n 2, 1) := by decide +kernel
theorem dL_law_1034 : decode cL_law 1034 = .ok (.aload_n 0, 1) := by decide +kernel
theorem dL_law_1035 : decode cL_law 1035 = .ok (.iload 4, 2) := by decide +kernel
theorem dL_law_1037 : decode cL_law 1037 = .ok (.iconst 1, 1) := by decide +kernel
theorem dL_law_1038 : decode cL_law 1038 = .ok (.iadd, 1) := by decide +kernel
theorem dL_law_1039 : decode cL_law 1039 = .ok (.iaload, 1) := by decide +kernel
theorem dL_law_1040 : decode cL_law 1040 = .ok (.invokevirtual 143, 3) := by decide +kernel
theorem dL_law_1043 : decode cL_law 1043 = .ok (.pop, 1) := by decide +kernel
theorem dL_law_1044 : decode cL_law 1044 = .ok (.goto 3, 3) := by decide +kernel
set_option maxHeartbeats 4000000 in
set_option maxRecDepth 100000 in
theorem lk_14 {p : Program} {e : Env} {s : State} {m : MethodId} {below : List Frame} {meth : Method} {c : Code} (l : Launch) {b L : Nat} {xs : Nat → Int32} (C0 : lw_At p s m meth c b L xs) {A : Nat → Prop} (hAe : A = fun q => s.heap.size ≤ q) {D : va_G} {ak : Nat → ClassId} {ad : Nat → Nat} (hl0 : l.stackTraces = false) (hE : EV D ak s) (hT : ST D ak ad A s s.heap) (hXE : XE A s s.heap) {o0 m0 x0 : Nat} {i : Int32} {k cells slots : Nat} (hi : i = nI k) (hk : k + 7 ≤ L) (hL : L ≤ 3584) (hc : cells + 15 ≤ room_1.cells) (hs : slots + 1133 ≤ room_1.slots) (kk : LGo p l e s m b below meth c D ak ad A o0 m0 x0 i 1047 (cells + 15) (slots + 1133)) : LGo p l e s m b below meth c D ak ad A o0 m0 x0 i 682 cells slots := by
  obtain ⟨hx, hb, hr, hml, hown, hts, hX, hbl, hlocks, hgv⟩ := id C0
  have hown : s.vm.findClass RL = some m.cls := hown
  have hA : ∀ q : Nat, s.heap.size ≤ q → A q := fun q h => by rw [hAe]; exact h
  have hbA : ¬ A b := by rw [hAe]; exact Nat.not_le.mpr hbl
  intro v LX LM fo H locs ls hI hJ hP hD hS hl
  refine lv_aload_n hx hb dL_law_682 rfl (lv_at hl 3 rfl) ?_
  refine lv_aload_n hx hb dL_law_683 rfl (lv_at hl 4 rfl) ?_
  refine lv_iload hx hb dL_law_684 (lv_at hl 0 rfl) ?_
  refine lv_iconst (v := 1) hx hb dL_law_686 (by decide) ?_
  refine lv_iadd hx hb dL_law_687 ?_
  refine va_sld hx hb hX hbl hbA hS (lk_in (d := 1) hi hk hL (by decide)) dL_law_688 ?_
  refine lv_topi (fun a1 ea1 => ?_)
  obtain ⟨q1, hh1⟩ := hI.head
  refine lc_i (U := LM) (C := LX) (V := [(o0, .inl (ak 1, 1, .inr (.inl fo)))]) hP hD hS hA (va_runV (As := [.int a1]) (rest := []) ⟨hx, hb, hml, hown, hts⟩ (x_steps l D ak ad _ x0 v LX a1 hI) (cwV 1 hts hG_X7_steps rfl rfl rfl (by decide +kernel) ⟨Nat.le_of_ble_eq_true rfl, Nat.le_of_ble_eq_true rfl⟩) (lc_preV (U := LM) (C := LX) (V := [(o0, .inl (ak 1, 1, .inr (.inl fo)))]) (As := [.int a1]) hE hT hP hD hS hA 0 6 rfl rfl hh1) rfl rfl hl.1 rfl (lv_room (Nat.le_of_ble_eq_true rfl)) dL_law_689 ⟨by omega, by omega⟩) (fun r1 LX H locs hR hP hD hS => ?_)
  obtain ⟨er1, hI⟩ := hR
  refine lv_pop hx hb dL_law_692 rfl ?_
  refine lv_aload_n hx hb dL_law_693 rfl (lv_at hl 2 rfl) ?_
  refine lv_aload_n hx hb dL_law_694 rfl (lv_at hl 4 rfl) ?_
  refine lv_iload hx hb dL_law_695 (lv_at hl 0 rfl) ?_
  refine lv_iconst (v := 1) hx hb dL_law_697 (by decide) ?_
  refine lv_iadd hx hb dL_law_698 ?_
  refine va_sld hx hb hX hbl hbA hS (lk_in (d := 1) hi hk hL (by decide)) dL_law_699 ?_
  refine W.eq (g2 := F0 m 700 ls (.int a1 :: .ref m0 :: [])) (by rw [ea1]) ?_
  obtain ⟨q2, hh2⟩ := hJ.head
  refine lc_i (U := []) (C := LM) (V := LX ++ [(o0, .inl (ak 1, 1, .inr (.inl fo)))]) hP hD hS hA (va_runV (As := [.int a1]) (rest := []) ⟨hx, hb, hml, hown, hts⟩ (m_steps l D ak ad _ m0 v LM a1 hJ) (cwV 1 hts hG_X8_steps rfl rfl rfl (by decide +kernel) ⟨Nat.le_of_ble_eq_true rfl, Nat.le_of_ble_eq_true rfl⟩) (lc_preV (U := []) (C := LM) (V := LX ++ [(o0, .inl (ak 1, 1, .inr (.inl fo)))]) (As := [.int a1]) hE hT hP hD hS hA 0 7 rfl rfl hh2) rfl rfl hl.1 rfl (lv_room (Nat.le_of_ble_eq_true rfl)) dL_law_700 ⟨by omega, by omega⟩) (fun r2 LM H locs hR hP hD hS => ?_)
  obtain ⟨er2, hJ⟩ := hR
  have hP : va_P D vwCl (LM ++ (LX ++ [(o0, .inl (ak 1, 1, .inr (.inl fo)))])) H := hP
  have hD : va_D A (LM ++ (LX ++ [(o0, .inl (ak 1, 1, .inr (.inl fo)))])) := hD
  refine lv_pop hx hb dL_law_703 rfl ?_
  refine lv_goto (tgt := 1047) hx hb dL_law_704 (by decide) ?_
  refine W.widen (k := cells + 15) (n := slots + 1133) (by omega) (by omega) ?_
  exact kk _ LX LM fo H locs ls hI hJ hP hD hS (lv_sub hl [0, 1, 2, 3, 4] rfl)
set_option maxHeartbeats 4000000 in
set_option maxRecDepth 100000 in
theorem lk_15 {p : Program} {e : Env} {s : State} {m : MethodId} {below : List Frame} {meth : Method} {c : Code} (l : Launch) {b L : Nat} {xs : Nat → Int32} (C0 : lw_At p s m meth c b L xs) {A : Nat → Prop} (hAe : A = fun q => s.heap.size ≤ q) {D : va_G} {ak : Nat → ClassId} {ad : Nat → Nat} (hl0 : l.stackTraces = false) (hE : EV D ak s) (hT : ST D ak ad A s s.heap) (hXE : XE A s s.heap) {o0 m0 x0 : Nat} {i : Int32} {k cells slots : Nat} (hi : i = nI k) (hk : k + 7 ≤ L) (hL : L ≤ 3584) (hc : cells + 15 ≤ room_1.cells) (hs : slots + 1133 ≤ room_1.slots) (kk : LGo p l e s m b below meth c D ak ad A o0 m0 x0 i 1047 (cells + 15) (slots + 1133)) : LGo p l e s m b below meth c D ak ad A o0 m0 x0 i 707 cells slots := by
  obtain ⟨hx, hb, hr, hml, hown, hts, hX, hbl, hlocks, hgv⟩ := id C0
  have hown : s.vm.findClass RL = some m.cls := hown
  have hA : ∀ q : Nat, s.heap.size ≤ q → A q := fun q h => by rw [hAe]; exact h
  have hbA : ¬ A b := by rw [hAe]; exact Nat.not_le.mpr hbl
  intro v LX LM fo H locs ls hI hJ hP hD hS hl
  refine lv_aload_n hx hb dL_law_707 rfl (lv_at hl 3 rfl) ?_
  refine lv_aload_n hx hb dL_law_708 rfl (lv_at hl 4 rfl) ?_
  refine lv_iload hx hb dL_law_709 (lv_at hl 0 rfl) ?_
  refine lv_iconst (v := 1) hx hb dL_law_711 (by decide) ?_
  refine lv_iadd hx hb dL_law_712 ?_
  refine va_sld hx hb hX hbl hbA hS (lk_in (d := 1) hi hk hL (by decide)) dL_law_713 ?_
  refine lv_topi (fun a1 ea1 => ?_)
  obtain ⟨q1, hh1⟩ := hI.head
  refine lc_i (U := LM) (C := LX) (V := [(o0, .inl (ak 1, 1, .inr (.inl fo)))]) hP hD hS hA (va_runV (As := [.int a1]) (rest := []) ⟨hx, hb, hml, hown, hts⟩ (x_falls l D ak ad _ x0 v LX a1 hI) (cwV 1 hts hG_X7_falls rfl rfl rfl (by decide +kernel) ⟨Nat.le_of_ble_eq_true rfl, Nat.le_of_ble_eq_true rfl⟩) (lc_preV (U := LM) (C := LX) (V := [(o0, .inl (ak 1, 1, .inr (.inl fo)))]) (As := [.int a1]) hE hT hP hD hS hA 0 6 rfl rfl hh1) rfl rfl hl.1 rfl (lv_room (Nat.le_of_ble_eq_true rfl)) dL_law_714 ⟨by omega, by omega⟩) (fun r1 LX H locs hR hP hD hS => ?_)
  obtain ⟨er1, hI⟩ := hR
  refine lv_pop hx hb dL_law_717 rfl ?_
  refine lv_aload_n hx hb dL_law_718 rfl (lv_at hl 2 rfl) ?_
  refine lv_aload_n hx hb dL_law_719 rfl (lv_at hl 4 rfl) ?_
  refine lv_iload hx hb dL_law_720 (lv_at hl 0 rfl) ?_
  refine lv_iconst (v := 1) hx hb dL_law_722 (by decide) ?_
  refine lv_iadd hx hb dL_law_723 ?_
  refine va_sld hx hb hX hbl hbA hS (lk_in (d := 1) hi hk hL (by decide)) dL_law_724 ?_
  refine W.eq (g2 := F0 m 725 ls (.int a1 :: .ref m0 :: [])) (by rw [ea1]) ?_
  obtain ⟨q2, hh2⟩ := hJ.head
  refine lc_i (U := []) (C := LM) (V := LX ++ [(o0, .inl (ak 1, 1, .inr (.inl fo)))]) hP hD hS hA (va_runV (As := [.int a1]) (rest := []) ⟨hx, hb, hml, hown, hts⟩ (m_falls l D ak ad _ m0 v LM a1 hJ) (cwV 1 hts hG_X8_falls rfl rfl rfl (by decide +kernel) ⟨Nat.le_of_ble_eq_true rfl, Nat.le_of_ble_eq_true rfl⟩) (lc_preV (U := []) (C := LM) (V := LX ++ [(o0, .inl (ak 1, 1, .inr (.inl fo)))]) (As := [.int a1]) hE hT hP hD hS hA 0 7 rfl rfl hh2) rfl rfl hl.1 rfl (lv_room (Nat.le_of_ble_eq_true rfl)) dL_law_725 ⟨by omega, by omega⟩) (fun r2 LM H locs hR hP hD hS => ?_)
  obtain ⟨er2, hJ⟩ := hR
  have hP : va_P D vwCl (LM ++ (LX ++ [(o0, .inl (ak 1, 1, .inr (.inl fo)))])) H := hP
  have hD : va_D A (LM ++ (LX ++ [(o0, .inl (ak 1, 1, .inr (.inl fo)))])) := hD
  refine lv_pop hx hb dL_law_728 rfl ?_
  refine lv_goto (tgt := 1047) hx hb dL_law_729 (by decide) ?_
  refine W.widen (k := cells + 15) (n := slots + 1133) (by omega) (by omega) ?_
  exact kk _ LX LM fo H locs ls hI hJ hP hD hS (lv_sub hl [0, 1, 2, 3, 4] rfl)
set_option maxHeartbeats 4000000 in
set_option maxRecDepth 100000 in
theorem lk_16 {p : Program} {e : Env} {s : State} {m : MethodId} {below : List Frame} {meth : Method} {c : Code} (l : Launch) {b L : Nat} {xs : Nat → Int32} (C0 : lw_At p s m meth c b L xs) {A : Nat → Prop} (hAe : A = fun q => s.heap.size ≤ q) {D : va_G} {ak : Nat → ClassId} {ad : Nat → Nat} (hl0 : l.stackTraces = false) (hE : EV D ak s) (hT : ST D ak ad A s s.heap) (hXE : XE A s s.heap) {o0 m0 x0 : Nat} {i : Int32} {k cells slots : Nat} (hi : i = nI k) (hk : k + 7 ≤ L) (hL : L ≤ 3584) (hc : cells + 15 ≤ room_1.cells) (hs : slots + 1133 ≤ room_1.slots) (kk : LGo p l e s m b below meth c D ak ad A o0 m0 x0 i 1047 (cells + 15) (slots + 1133)) : LGo p l e s m b below meth c D ak ad A o0 m0 x0 i 732 cells slots := by
  obtain ⟨hx, hb, hr, hml, hown, hts, hX, hbl, hlocks, hgv⟩ := id C0
  have hown : s.vm.findClass RL = some m.cls := hown
  have hA : ∀ q : Nat, s.heap.size ≤ q → A q := fun q h => by rw [hAe]; exact h
  have hbA : ¬ A b := by rw [hAe]; exact Nat.not_le.mpr hbl
  intro v LX LM fo H locs ls hI hJ hP hD hS hl
  refine lv_aload_n hx hb dL_law_732 rfl (lv_at hl 3 rfl) ?_
  refine lv_aload_n hx hb dL_law_733 rfl (lv_at hl 4 rfl) ?_
  refine lv_iload hx hb dL_law_734 (lv_at hl 0 rfl) ?_
  refine lv_iconst (v := 1) hx hb dL_law_736 (by decide) ?_
  refine lv_iadd hx hb dL_law_737 ?_
  refine va_sld hx hb hX hbl hbA hS (lk_in (d := 1) hi hk hL (by decide)) dL_law_738 ?_
  refine lv_topi (fun a1 ea1 => ?_)
  refine lv_aload_n hx hb dL_law_739 rfl (lv_at hl 4 rfl) ?_
  refine lv_iload hx hb dL_law_740 (lv_at hl 0 rfl) ?_
  refine lv_iconst (v := 2) hx hb dL_law_742 (by decide) ?_
  refine lv_iadd hx hb dL_law_743 ?_
  refine va_sld hx hb hX hbl hbA hS (lk_in (d := 2) hi hk hL (by decide)) dL_law_744 ?_
  refine lv_topi (fun a2 ea2 => ?_)
  obtain ⟨q1, hh1⟩ := hI.head
  refine lc_i (U := LM) (C := LX) (V := [(o0, .inl (ak 1, 1, .inr (.inl fo)))]) hP hD hS hA (va_runV (As := [.int a1, .int a2]) (rest := []) ⟨hx, hb, hml, hown, hts⟩ (x_most l D ak ad _ x0 v LX a1 a2 hI) (cwV 2 hts hG_X7_most rfl rfl rfl (by decide +kernel) ⟨Nat.le_of_ble_eq_true rfl, Nat.le_of_ble_eq_true rfl⟩) (lc_preV (U := LM) (C := LX) (V := [(o0, .inl (ak 1, 1, .inr (.inl fo)))]) (As := [.int a1, .int a2]) hE hT hP hD hS hA 0 6 rfl rfl hh1) rfl rfl hl.1 rfl (lv_room (Nat.le_of_ble_eq_true rfl)) dL_law_745 ⟨by omega, by omega⟩) (fun r1 LX H locs hR hP hD hS => ?_)
  obtain ⟨er1, hI⟩ := hR
  refine lv_pop hx hb dL_law_748 rfl ?_
  refine lv_aload_n hx hb dL_law_749 rfl (lv_at hl 2 rfl) ?_
  refine lv_aload_n hx hb dL_law_750 rfl (lv_at hl 4 rfl) ?_
  refine lv_iload hx hb dL_law_751 (lv_at hl 0 rfl) ?_
  refine lv_iconst (v := 1) hx hb dL_law_753 (by decide) ?_
  refine lv_iadd hx hb dL_law_754 ?_
  refine va_sld hx hb hX hbl hbA hS (lk_in (d := 1) hi hk hL (by decide)) dL_law_755 ?_
  refine W.eq (g2 := F0 m 756 ls (.int a1 :: .ref m0 :: [])) (by rw [ea1]) ?_
  refine lv_aload_n hx hb dL_law_756 rfl (lv_at hl 4 rfl) ?_
  refine lv_iload hx hb dL_law_757 (lv_at hl 0 rfl) ?_
  refine lv_iconst (v := 2) hx hb dL_law_759 (by decide) ?_
  refine lv_iadd hx hb dL_law_760 ?_
  refine va_sld hx hb hX hbl hbA hS (lk_in (d := 2) hi hk hL (by decide)) dL_law_761 ?_
  refine W.eq (g2 := F0 m 762 ls (.int a2 :: .int a1 :: .ref m0 :: [])) (by rw [ea2]) ?_
  obtain ⟨q2, hh2⟩ := hJ.head
  refine lc_i (U := []) (C := LM) (V := LX ++ [(o0, .inl (ak 1, 1, .inr (.inl fo)))]) hP hD hS hA (va_runV (As := [.int a1, .int a2]) (rest := []) ⟨hx, hb, hml, hown, hts⟩ (m_most l D ak ad _ m0 v LM a1 a2 hJ) (cwV 2 hts hG_X8_most rfl rfl rfl (by decide +kernel) ⟨Nat.le_of_ble_eq_true rfl, Nat.le_of_ble_eq_true rfl⟩) (lc_preV (U := []) (C := LM) (V := LX ++ [(o0, .inl (ak 1, 1, .inr (.inl fo)))]) (As := [.int a1, .int a2]) hE hT hP hD hS hA 0 7 rfl rfl hh2) rfl rfl hl.1 rfl (lv_room (Nat.le_of_ble_eq_true rfl)) dL_law_762 ⟨by omega, by omega⟩) (fun r2 LM H locs hR hP hD hS => ?_)
  obtain ⟨er2, hJ⟩ := hR
  have hP : va_P D vwCl (LM ++ (LX ++ [(o0, .inl (ak 1, 1, .inr (.inl fo)))])) H := hP
  have hD : va_D A (LM ++ (LX ++ [(o0, .inl (ak 1, 1, .inr (.inl fo)))])) := hD
  refine lv_pop hx hb dL_law_765 rfl ?_
  refine lv_goto (tgt := 1047) hx hb dL_law_766 (by decide) ?_
  refine W.widen (k := cells + 15) (n := slots + 1133) (by omega) (by omega) ?_
  exact kk _ LX LM fo H locs ls hI hJ hP hD hS (lv_sub hl [0, 1, 2, 3, 4] rfl)
set_option maxHeartbeats 4000000 in
set_option maxRecDepth 100000 in
theorem lk_17 {p : Program} {e : Env} {s : State} {m : MethodId} {below : List Frame} {meth : Method} {c : Code} (l : Launch) {b L : Nat} {xs : Nat → Int32} (C0 : lw_At p s m meth c b L xs) {A : Nat → Prop} (hAe : A = fun q => s.heap.size ≤ q) {D : va_G} {ak : Nat → ClassId} {ad : Nat → Nat} (hl0 : l.stackTraces = false) (hE : EV D ak s) (hT : ST D ak ad A s s.heap) (hXE : XE A s s.heap) {o0 m0 x0 : Nat} {i : Int32} {k cells slots : Nat} (hi : i = nI k) (hk : k + 7 ≤ L) (hL : L ≤ 3584) (hc : cells + 15 ≤ room_1.cells) (hs : slots + 1133 ≤ room_1.slots) (kk : LGo p l e s m b below meth c D ak ad A o0 m0 x0 i 1047 (cells + 15) (slots + 1133)) : LGo p l e s m b below meth c D ak ad A o0 m0 x0 i 769 cells slots := by
  obtain ⟨hx, hb, hr, hml, hown, hts, hX, hbl, hlocks, hgv⟩ := id C0
  have hown : s.vm.findClass RL = some m.cls := hown
  have hA : ∀ q : Nat, s.heap.size ≤ q → A q := fun q h => by rw [hAe]; exact h
  have hbA : ¬ A b := by rw [hAe]; exact Nat.not_le.mpr hbl
  intro v LX LM fo H locs ls hI hJ hP hD hS hl
  refine lv_aload_n hx hb dL_law_769 rfl (lv_at hl 3 rfl) ?_
  obtain ⟨q1, hh1⟩ := hI.head
  refine lc_i (U := LM) (C := LX) (V := [(o0, .inl (ak 1, 1, .inr (.inl fo)))]) hP hD hS hA (va_runV (As := []) (rest := []) ⟨hx, hb, hml, hown, hts⟩ (x_never l D ak ad _ x0 v LX  hI) (cwV 0 hts hG_X7_never rfl rfl rfl (by decide +kernel) ⟨Nat.le_of_ble_eq_true rfl, Nat.le_of_ble_eq_true rfl⟩) (lc_preV (U := LM) (C := LX) (V := [(o0, .inl (ak 1, 1, .inr (.inl fo)))]) (As := []) hE hT hP hD hS hA 0 6 rfl rfl hh1) rfl rfl hl.1 rfl (lv_room (Nat.le_of_ble_eq_true rfl)) dL_law_770 ⟨by omega, by omega⟩) (fun r1 LX H locs hR hP hD hS => ?_)
  obtain ⟨er1, hI⟩ := hR
  refine lv_pop hx hb dL_law_773 rfl ?_
  refine lv_aload_n hx hb dL_law_774 rfl (lv_at hl 2 rfl) ?_
  obtain ⟨q2, hh2⟩ := hJ.head
  refine lc_i (U := []) (C := LM) (V := LX ++ [(o0, .inl (ak 1, 1, .inr (.inl fo)))]) hP hD hS hA (va_runV (As := []) (rest := []) ⟨hx, hb, hml, hown, hts⟩ (m_never l D ak ad _ m0 v LM  hJ) (cwV 0 hts hG_X8_never rfl rfl rfl (by decide +kernel) ⟨Nat.le_of_ble_eq_true rfl, Nat.le_of_ble_eq_true rfl⟩) (lc_preV (U := []) (C := LM) (V := LX ++ [(o0, .inl (ak 1, 1, .inr (.inl fo)))]) (As := []) hE hT hP hD hS hA 0 7 rfl rfl hh2) rfl rfl hl.1 rfl (lv_room (Nat.le_of_ble_eq_true rfl)) dL_law_775 ⟨by omega, by omega⟩) (fun r2 LM H locs hR hP hD hS => ?_)
  obtain ⟨er2, hJ⟩ := hR
  have hP : va_P D vwCl (LM ++ (LX ++ [(o0, .inl (ak 1, 1, .inr (.inl fo)))])) H := hP
  have hD : va_D A (LM ++ (LX ++ [(o0, .inl (ak 1, 1, .inr (.inl fo)))])) := hD
  refine lv_pop hx hb dL_law_778 rfl ?_
  refine lv_goto (tgt := 1047) hx hb dL_law_779 (by decide) ?_
  refine W.widen (k := cells + 15) (n := slots + 1133) (by omega) (by omega) ?_
  exact kk _ LX LM fo H locs ls hI hJ hP hD hS (lv_sub hl [0, 1, 2, 3, 4] rfl)
set_option maxHeartbeats 4000000 in
set_option maxRecDepth 100000 in
theorem lk_18 {p : Program} {e : Env} {s : State} {m : MethodId} {below : List Frame} {meth : Method} {c : Code} (l : Launch) {b L : Nat} {xs : Nat → Int32} (C0 : lw_At p s m meth c b L xs) {A : Nat → Prop} (hAe : A = fun q => s.heap.size ≤ q) {D : va_G} {ak : Nat → ClassId} {ad : Nat → Nat} (hl0 : l.stackTraces = false) (hE : EV D ak s) (hT : ST D ak ad A s s.heap) (hXE : XE A s s.heap) {o0 m0 x0 : Nat} {i : Int32} {k cells slots : Nat} (hi : i = nI k) (hk : k + 7 ≤ L) (hL : L ≤ 3584) (hc : cells + 15 ≤ room_1.cells) (hs : slots + 1133 ≤ room_1.slots) (kk : LGo p l e s m b below meth c D ak ad A o0 m0 x0 i 1047 (cells + 15) (slots + 1133)) : LGo p l e s m b below meth c D ak ad A o0 m0 x0 i 782 cells slots := by
  obtain ⟨hx, hb, hr, hml, hown, hts, hX, hbl, hlocks, hgv⟩ := id C0
  have hown : s.vm.findClass RL = some m.cls := hown
  have hA : ∀ q : Nat, s.heap.size ≤ q → A q := fun q h => by rw [hAe]; exact h
  have hbA : ¬ A b := by rw [hAe]; exact Nat.not_le.mpr hbl
  intro v LX LM fo H locs ls hI hJ hP hD hS hl
  refine lv_aload_n hx hb dL_law_782 rfl (lv_at hl 3 rfl) ?_
  refine lv_aload_n hx hb dL_law_783 rfl (lv_at hl 4 rfl) ?_
  refine lv_iload hx hb dL_law_784 (lv_at hl 0 rfl) ?_
  refine lv_iconst (v := 1) hx hb dL_law_786 (by decide) ?_
  refine lv_iadd hx hb dL_law_787 ?_
  refine va_sld hx hb hX hbl hbA hS (lk_in (d := 1) hi hk hL (by decide)) dL_law_788 ?_
  refine lv_topi (fun a1 ea1 => ?_)
  obtain ⟨q1, hh1⟩ := hI.head
  refine lc_i (U := LM) (C := LX) (V := [(o0, .inl (ak 1, 1, .inr (.inl fo)))]) hP hD hS hA (va_runV (As := [.int a1]) (rest := []) ⟨hx, hb, hml, hown, hts⟩ (x_first l D ak ad _ x0 v LX a1 hI) (cwV 1 hts hG_X7_first rfl rfl rfl (by decide +kernel) ⟨Nat.le_of_ble_eq_true rfl, Nat.le_of_ble_eq_true rfl⟩) (lc_preV (U := LM) (C := LX) (V := [(o0, .inl (ak 1, 1, .inr (.inl fo)))]) (As := [.int a1]) hE hT hP hD hS hA 0 6 rfl rfl hh1) rfl rfl hl.1 rfl (lv_room (Nat.le_of_ble_eq_true rfl)) dL_law_789 ⟨by omega, by omega⟩) (fun r1 LX H locs hR hP hD hS => ?_)
  obtain ⟨er1, hI⟩ := hR
  refine lv_pop hx hb dL_law_792 rfl ?_
  refine lv_aload_n hx hb dL_law_793 rfl (lv_at hl 2 rfl) ?_
  refine lv_aload_n hx hb dL_law_794 rfl (lv_at hl 4 rfl) ?_
  refine lv_iload hx hb dL_law_795 (lv_at hl 0 rfl) ?_
  refine lv_iconst (v := 1) hx hb dL_law_797 (by decide) ?_
  refine lv_iadd hx hb dL_law_798 ?_
  refine va_sld hx hb hX hbl hbA hS (lk_in (d := 1) hi hk hL (by decide)) dL_law_799 ?_
  refine W.eq (g2 := F0 m 800 ls (.int a1 :: .ref m0 :: [])) (by rw [ea1]) ?_
  obtain ⟨q2, hh2⟩ := hJ.head
  refine lc_i (U := []) (C := LM) (V := LX ++ [(o0, .inl (ak 1, 1, .inr (.inl fo)))]) hP hD hS hA (va_runV (As := [.int a1]) (rest := []) ⟨hx, hb, hml, hown, hts⟩ (m_first l D ak ad _ m0 v LM a1 hJ) (cwV 1 hts hG_X8_first rfl rfl rfl (by decide +kernel) ⟨Nat.le_of_ble_eq_true rfl, Nat.le_of_ble_eq_true rfl⟩) (lc_preV (U := []) (C := LM) (V := LX ++ [(o0, .inl (ak 1, 1, .inr (.inl fo)))]) (As := [.int a1]) hE hT hP hD hS hA 0 7 rfl rfl hh2) rfl rfl hl.1 rfl (lv_room (Nat.le_of_ble_eq_true rfl)) dL_law_800 ⟨by omega, by omega⟩) (fun r2 LM H locs hR hP hD hS => ?_)
  obtain ⟨er2, hJ⟩ := hR
  have hP : va_P D vwCl (LM ++ (LX ++ [(o0, .inl (ak 1, 1, .inr (.inl fo)))])) H := hP
  have hD : va_D A (LM ++ (LX ++ [(o0, .inl (ak 1, 1, .inr (.inl fo)))])) := hD
  refine lv_pop hx hb dL_law_803 rfl ?_
  refine lv_goto (tgt := 1047) hx hb dL_law_804 (by decide) ?_
  refine W.widen (k := cells + 15) (n := slots + 1133) (by omega) (by omega) ?_
  exact kk _ LX LM fo H locs ls hI hJ hP hD hS (lv_sub hl [0, 1, 2, 3, 4] rfl)
set_option maxHeartbeats 4000000 in
set_option maxRecDepth 100000 in
theorem lk_19 {p : Program} {e : Env} {s : State} {m : MethodId} {below : List Frame} {meth : Method} {c : Code} (l : Launch) {b L : Nat} {xs : Nat → Int32} (C0 : lw_At p s m meth c b L xs) {A : Nat → Prop} (hAe : A = fun q => s.heap.size ≤ q) {D : va_G} {ak : Nat → ClassId} {ad : Nat → Nat} (hl0 : l.stackTraces = false) (hE : EV D ak s) (hT : ST D ak ad A s s.heap) (hXE : XE A s s.heap) {o0 m0 x0 : Nat} {i : Int32} {k cells slots : Nat} (hi : i = nI k) (hk : k + 7 ≤ L) (hL : L ≤ 3584) (hc : cells + 15 ≤ room_1.cells) (hs : slots + 1133 ≤ room_1.slots) (kk : LGo p l e s m b below meth c D ak ad A o0 m0 x0 i 1047 (cells + 15) (slots + 1133)) : LGo p l e s m b below meth c D ak ad A o0 m0 x0 i 807 cells slots := by
  obtain ⟨hx, hb, hr, hml, hown, hts, hX, hbl, hlocks, hgv⟩ := id C0
  have hown : s.vm.findClass RL = some m.cls := hown
  have hA : ∀ q : Nat, s.heap.size ≤ q → A q := fun q h => by rw [hAe]; exact h
  have hbA : ¬ A b := by rw [hAe]; exact Nat.not_le.mpr hbl
  intro v LX LM fo H locs ls hI hJ hP hD hS hl
  refine lv_aload_n hx hb dL_law_807 rfl (lv_at hl 3 rfl) ?_
  obtain ⟨q1, hh1⟩ := hI.head
  refine lc_i (U := LM) (C := LX) (V := [(o0, .inl (ak 1, 1, .inr (.inl fo)))]) hP hD hS hA (va_runV (As := []) (rest := []) ⟨hx, hb, hml, hown, hts⟩ (x_apart l D ak ad _ x0 v LX  hI) (cwV 0 hts hG_X7_apart rfl rfl rfl (by decide +kernel) ⟨Nat.le_of_ble_eq_true rfl, Nat.le_of_ble_eq_true rfl⟩) (lc_preV (U := LM) (C := LX) (V := [(o0, .inl (ak 1, 1, .inr (.inl fo)))]) (As := []) hE hT hP hD hS hA 0 6 rfl rfl hh1) rfl rfl hl.1 rfl (lv_room (Nat.le_of_ble_eq_true rfl)) dL_law_808 ⟨by omega, by omega⟩) (fun r1 LX H locs hR hP hD hS => ?_)
  obtain ⟨er1, hI⟩ := hR
  refine lv_pop hx hb dL_law_811 rfl ?_
  refine lv_aload_n hx hb dL_law_812 rfl (lv_at hl 2 rfl) ?_
  obtain ⟨q2, hh2⟩ := hJ.head
  refine lc_i (U := []) (C := LM) (V := LX ++ [(o0, .inl (ak 1, 1, .inr (.inl fo)))]) hP hD hS hA (va_runV (As := []) (rest := []) ⟨hx, hb, hml, hown, hts⟩ (m_apart l D ak ad _ m0 v LM  hJ) (cwV 0 hts hG_X8_apart rfl rfl rfl (by decide +kernel) ⟨Nat.le_of_ble_eq_true rfl, Nat.le_of_ble_eq_true rfl⟩) (lc_preV (U := []) (C := LM) (V := LX ++ [(o0, .inl (ak 1, 1, .inr (.inl fo)))]) (As := []) hE hT hP hD hS hA 0 7 rfl rfl hh2) rfl rfl hl.1 rfl (lv_room (Nat.le_of_ble_eq_true rfl)) dL_law_813 ⟨by omega, by omega⟩) (fun r2 LM H locs hR hP hD hS => ?_)
  obtain ⟨er2, hJ⟩ := hR
  have hP : va_P D vwCl (LM ++ (LX ++ [(o0, .inl (ak 1, 1, .inr (.inl fo)))])) H := hP
  have hD : va_D A (LM ++ (LX ++ [(o0, .inl (ak 1, 1, .inr (.inl fo)))])) := hD
  refine lv_pop hx hb dL_law_816 rfl ?_
  refine lv_goto (tgt := 1047) hx hb dL_law_817 (by decide) ?_
  refine W.widen (k := cells + 15) (n := slots + 1133) (by omega) (by omega) ?_
  exact kk _ LX LM fo H locs ls hI hJ hP hD hS (lv_sub hl [0, 1, 2, 3, 4] rfl)
set_option maxHeartbeats 4000000 in
set_option maxRecDepth 100000 in
theorem lk_20 {p : Program} {e : Env} {s : State} {m : MethodId} {below : List Frame} {meth : Method} {c : Code} (l : Launch) {b L : Nat} {xs : Nat → Int32} (C0 : lw_At p s m meth c b L xs) {A : Nat → Prop} (hAe : A = fun q => s.heap.size ≤ q) {D : va_G} {ak : Nat → ClassId} {ad : Nat → Nat} (hl0 : l.stackTraces = false) (hE : EV D ak s) (hT : ST D ak ad A s s.heap) (hXE : XE A s s.heap) {o0 m0 x0 : Nat} {i : Int32} {k cells slots : Nat} (hi : i = nI k) (hk : k + 7 ≤ L) (hL : L ≤ 3584) (hc : cells + 15 ≤ room_1.cells) (hs : slots + 1133 ≤ room_1.slots) (kk : LGo p l e s m b below meth c D ak ad A o0 m0 x0 i 1047 (cells + 15) (slots + 1133)) : LGo p l e s m b below meth c D ak ad A o0 m0 x0 i 820 cells slots := by
  obtain ⟨hx, hb, hr, hml, hown, hts, hX, hbl, hlocks, hgv⟩ := id C0
  have hown : s.vm.findClass RL = some m.cls := hown
  have hA : ∀ q : Nat, s.heap.size ≤ q → A q := fun q h => by rw [hAe]; exact h
  have hbA : ¬ A b := by rw [hAe]; exact Nat.not_le.mpr hbl
  intro v LX LM fo H locs ls hI hJ hP hD hS hl
  refine lv_aload_n hx hb dL_law_820 rfl (lv_at hl 3 rfl) ?_
  refine lv_aload_n hx hb dL_law_821 rfl (lv_at hl 4 rfl) ?_
  refine lv_iload hx hb dL_law_822 (lv_at hl 0 rfl) ?_
  refine lv_iconst (v := 1) hx hb dL_law_824 (by decide) ?_
  refine lv_iadd hx hb dL_law_825 ?_
  refine va_sld hx hb hX hbl hbA hS (lk_in (d := 1) hi hk hL (by decide)) dL_law_826 ?_
  refine lv_topi (fun a1 ea1 => ?_)
  obtain ⟨q1, hh1⟩ := hI.head
  refine lc_i (U := LM) (C := LX) (V := [(o0, .inl (ak 1, 1, .inr (.inl fo)))]) hP hD hS hA (va_runV (As := [.int a1]) (rest := []) ⟨hx, hb, hml, hown, hts⟩ (x_rounds l D ak ad _ x0 v LX a1 hI) (cwV 1 hts hG_X7_rounds rfl rfl rfl (by decide +kernel) ⟨Nat.le_of_ble_eq_true rfl, Nat.le_of_ble_eq_true rfl⟩) (lc_preV (U := LM) (C := LX) (V := [(o0, .inl (ak 1, 1, .inr (.inl fo)))]) (As := [.int a1]) hE hT hP hD hS hA 0 6 rfl rfl hh1) rfl rfl hl.1 rfl (lv_room (Nat.le_of_ble_eq_true rfl)) dL_law_827 ⟨by omega, by omega⟩) (fun r1 LX H locs hR hP hD hS => ?_)
  obtain ⟨er1, hI⟩ := hR
  refine lv_pop hx hb dL_law_830 rfl ?_
  refine lv_aload_n hx hb dL_law_831 rfl (lv_at hl 2 rfl) ?_
  refine lv_aload_n hx hb dL_law_832 rfl (lv_at hl 4 rfl) ?_
  refine lv_iload hx hb dL_law_833 (lv_at hl 0 rfl) ?_
  refine lv_iconst (v := 1) hx hb dL_law_835 (by decide) ?_
  refine lv_iadd hx hb dL_law_836 ?_
  refine va_sld hx hb hX hbl hbA hS (lk_in (d := 1) hi hk hL (by decide)) dL_law_837 ?_
  refine W.eq (g2 := F0 m 838 ls (.int a1 :: .ref m0 :: [])) (by rw [ea1]) ?_
  obtain ⟨q2, hh2⟩ := hJ.head
  refine lc_i (U := []) (C := LM) (V := LX ++ [(o0, .inl (ak 1, 1, .inr (.inl fo)))]) hP hD hS hA (va_runV (As := [.int a1]) (rest := []) ⟨hx, hb, hml, hown, hts⟩ (m_rounds l D ak ad _ m0 v LM a1 hJ) (cwV 1 hts hG_X8_rounds rfl rfl rfl (by decide +kernel) ⟨Nat.le_of_ble_eq_true rfl, Nat.le_of_ble_eq_true rfl⟩) (lc_preV (U := []) (C := LM) (V := LX ++ [(o0, .inl (ak 1, 1, .inr (.inl fo)))]) (As := [.int a1]) hE hT hP hD hS hA 0 7 rfl rfl hh2) rfl rfl hl.1 rfl (lv_room (Nat.le_of_ble_eq_true rfl)) dL_law_838 ⟨by omega, by omega⟩) (fun r2 LM H locs hR hP hD hS => ?_)
  obtain ⟨er2, hJ⟩ := hR
  have hP : va_P D vwCl (LM ++ (LX ++ [(o0, .inl (ak 1, 1, .inr (.inl fo)))])) H := hP
  have hD : va_D A (LM ++ (LX ++ [(o0, .inl (ak 1, 1, .inr (.inl fo)))])) := hD
  refine lv_pop hx hb dL_law_841 rfl ?_
  refine lv_goto (tgt := 1047) hx hb dL_law_842 (by decide) ?_
  refine W.widen (k := cells + 15) (n := slots + 1133) (by omega) (by omega) ?_
  exact kk _ LX LM fo H locs ls hI hJ hP hD hS (lv_sub hl [0, 1, 2, 3, 4] rfl)
set_option maxHeartbeats 4000000 in
set_option maxRecDepth 100000 in
theorem lk_21 {p : Program} {e : Env} {s : State} {m : MethodId} {below : List Frame} {meth : Method} {c : Code} (l : Launch) {b L : Nat} {xs : Nat → Int32} (C0 : lw_At p s m meth c b L xs) {A : Nat → Prop} (hAe : A = fun q => s.heap.size ≤ q) {D : va_G} {ak : Nat → ClassId} {ad : Nat → Nat} (hl0 : l.stackTraces = false) (hE : EV D ak s) (hT : ST D ak ad A s s.heap) (hXE : XE A s s.heap) {o0 m0 x0 : Nat} {i : Int32} {k cells slots : Nat} (hi : i = nI k) (hk : k + 7 ≤ L) (hL : L ≤ 3584) (hc : cells + 15 ≤ room_1.cells) (hs : slots + 1133 ≤ room_1.slots) (kk : LGo p l e s m b below meth c D ak ad A o0 m0 x0 i 1047 (cells + 15) (slots + 1133)) : LGo p l e s m b below meth c D ak ad A o0 m0 x0 i 845 cells slots := by
  obtain ⟨hx, hb, hr, hml, hown, hts, hX, hbl, hlocks, hgv⟩ := id C0
  have hown : s.vm.findClass RL = some m.cls := hown
  have hA : ∀ q : Nat, s.heap.size ≤ q → A q := fun q h => by rw [hAe]; exact h
  have hbA : ¬ A b := by rw [hAe]; exact Nat.not_le.mpr hbl
  intro v LX LM fo H locs ls hI hJ hP hD hS hl
  refine lv_aload_n hx hb dL_law_845 rfl (lv_at hl 3 rfl) ?_
  refine lv_aload_n hx hb dL_law_846 rfl (lv_at hl 4 rfl) ?_
  refine lv_iload hx hb dL_law_847 (lv_at hl 0 rfl) ?_
  refine lv_iconst (v := 1) hx hb dL_law_849 (by decide) ?_
  refine lv_iadd hx hb dL_law_850 ?_
  refine va_sld hx hb hX hbl hbA hS (lk_in (d := 1) hi hk hL (by decide)) dL_law_851 ?_
  refine lv_topi (fun a1 ea1 => ?_)
  obtain ⟨q1, hh1⟩ := hI.head
  refine lc_i (U := LM) (C := LX) (V := [(o0, .inl (ak 1, 1, .inr (.inl fo)))]) hP hD hS hA (va_runV (As := [.int a1]) (rest := []) ⟨hx, hb, hml, hown, hts⟩ (x_lasting l D ak ad _ x0 v LX a1 hI) (cwV 1 hts hG_X7_lasting rfl rfl rfl (by decide +kernel) ⟨Nat.le_of_ble_eq_true rfl, Nat.le_of_ble_eq_true rfl⟩) (lc_preV (U := LM) (C := LX) (V := [(o0, .inl (ak 1, 1, .inr (.inl fo)))]) (As := [.int a1]) hE hT hP hD hS hA 0 6 rfl rfl hh1) rfl rfl hl.1 rfl (lv_room (Nat.le_of_ble_eq_true rfl)) dL_law_852 ⟨by omega, by omega⟩) (fun r1 LX H locs hR hP hD hS => ?_)
  obtain ⟨er1, hI⟩ := hR
  refine lv_pop hx hb dL_law_855 rfl ?_
  refine lv_aload_n hx hb dL_law_856 rfl (lv_at hl 2 rfl) ?_
  refine lv_aload_n hx hb dL_law_857 rfl (lv_at hl 4 rfl) ?_
  refine lv_iload hx hb dL_law_858 (lv_at hl 0 rfl) ?_
  refine lv_iconst (v := 1) hx hb dL_law_860 (by decide) ?_
  refine lv_iadd hx hb dL_law_861 ?_
  refine va_sld hx hb hX hbl hbA hS (lk_in (d := 1) hi hk hL (by decide)) dL_law_862 ?_
  refine W.eq (g2 := F0 m 863 ls (.int a1 :: .ref m0 :: [])) (by rw [ea1]) ?_
  obtain ⟨q2, hh2⟩ := hJ.head
  refine lc_i (U := []) (C := LM) (V := LX ++ [(o0, .inl (ak 1, 1, .inr (.inl fo)))]) hP hD hS hA (va_runV (As := [.int a1]) (rest := []) ⟨hx, hb, hml, hown, hts⟩ (m_lasting l D ak ad _ m0 v LM a1 hJ) (cwV 1 hts hG_X8_lasting rfl rfl rfl (by decide +kernel) ⟨Nat.le_of_ble_eq_true rfl, Nat.le_of_ble_eq_true rfl⟩) (lc_preV (U := []) (C := LM) (V := LX ++ [(o0, .inl (ak 1, 1, .inr (.inl fo)))]) (As := [.int a1]) hE hT hP hD hS hA 0 7 rfl rfl hh2) rfl rfl hl.1 rfl (lv_room (Nat.le_of_ble_eq_true rfl)) dL_law_863 ⟨by omega, by omega⟩) (fun r2 LM H locs hR hP hD hS => ?_)
  obtain ⟨er2, hJ⟩ := hR
  have hP : va_P D vwCl (LM ++ (LX ++ [(o0, .inl (ak 1, 1, .inr (.inl fo)))])) H := hP
  have hD : va_D A (LM ++ (LX ++ [(o0, .inl (ak 1, 1, .inr (.inl fo)))])) := hD
  refine lv_pop hx hb dL_law_866 rfl ?_
  refine lv_goto (tgt := 1047) hx hb dL_law_867 (by decide) ?_
  refine W.widen (k := cells + 15) (n := slots + 1133) (by omega) (by omega) ?_
  exact kk _ LX LM fo H locs ls hI hJ hP hD hS (lv_sub hl [0, 1, 2, 3, 4] rfl)
set_option maxHeartbeats 4000000 in
set_option maxRecDepth 100000 in
theorem lk_22 {p : Program} {e : Env} {s : State} {m : MethodId} {below : List Frame} {meth : Method} {c : Code} (l : Launch) {b L : Nat} {xs : Nat → Int32} (C0 : lw_At p s m meth c b L xs) {A : Nat → Prop} (hAe : A = fun q => s.heap.size ≤ q) {D : va_G} {ak : Nat → ClassId} {ad : Nat → Nat} (hl0 : l.stackTraces = false) (hE : EV D ak s) (hT : ST D ak ad A s s.heap) (hXE : XE A s s.heap) {o0 m0 x0 : Nat} {i : Int32} {k cells slots : Nat} (hi : i = nI k) (hk : k + 7 ≤ L) (hL : L ≤ 3584) (hc : cells + 15 ≤ room_1.cells) (hs : slots + 1133 ≤ room_1.slots) (kk : LGo p l e s m b below meth c D ak ad A o0 m0 x0 i 1047 (cells + 15) (slots + 1133)) : LGo p l e s m b below meth c D ak ad A o0 m0 x0 i 870 cells slots := by
  obtain ⟨hx, hb, hr, hml, hown, hts, hX, hbl, hlocks, hgv⟩ := id C0
  have hown : s.vm.findClass RL = some m.cls := hown
  have hA : ∀ q : Nat, s.heap.size ≤ q → A q := fun q h => by rw [hAe]; exact h
  have hbA : ¬ A b := by rw [hAe]; exact Nat.not_le.mpr hbl
  intro v LX LM fo H locs ls hI hJ hP hD hS hl
  refine lv_aload_n hx hb dL_law_870 rfl (lv_at hl 3 rfl) ?_
  refine lv_aload_n hx hb dL_law_871 rfl (lv_at hl 4 rfl) ?_
  refine lv_iload hx hb dL_law_872 (lv_at hl 0 rfl) ?_
  refine lv_iconst (v := 1) hx hb dL_law_874 (by decide) ?_
  refine lv_iadd hx hb dL_law_875 ?_
  refine va_sld hx hb hX hbl hbA hS (lk_in (d := 1) hi hk hL (by decide)) dL_law_876 ?_
  refine lv_topi (fun a1 ea1 => ?_)
  refine lv_aload_n hx hb dL_law_877 rfl (lv_at hl 4 rfl) ?_
  refine lv_iload hx hb dL_law_878 (lv_at hl 0 rfl) ?_
  refine lv_iconst (v := 2) hx hb dL_law_880 (by decide) ?_
  refine lv_iadd hx hb dL_law_881 ?_
  refine va_sld hx hb hX hbl hbA hS (lk_in (d := 2) hi hk hL (by decide)) dL_law_882 ?_
  refine lv_topi (fun a2 ea2 => ?_)
  refine lv_aload_n hx hb dL_law_883 rfl (lv_at hl 4 rfl) ?_
  refine lv_iload hx hb dL_law_884 (lv_at hl 0 rfl) ?_
  refine lv_iconst (v := 3) hx hb dL_law_886 (by decide) ?_
  refine lv_iadd hx hb dL_law_887 ?_
  refine va_sld hx hb hX hbl hbA hS (lk_in (d := 3) hi hk hL (by decide)) dL_law_888 ?_
  refine lv_topi (fun a3 ea3 => ?_)
  obtain ⟨q1, hh1⟩ := hI.head
  refine lc_i (U := LM) (C := LX) (V := [(o0, .inl (ak 1, 1, .inr (.inl fo)))]) hP hD hS hA (va_runV (As := [.int a1, .int a2, .int a3]) (rest := []) ⟨hx, hb, hml, hown, hts⟩ (x_lasts l D ak ad _ x0 v LX a1 a2 a3 hI) (cwV 3 hts hG_X7_lasts rfl rfl rfl (by decide +kernel) ⟨Nat.le_of_ble_eq_true rfl, Nat.le_of_ble_eq_true rfl⟩) (lc_preV (U := LM) (C := LX) (V := [(o0, .inl (ak 1, 1, .inr (.inl fo)))]) (As := [.int a1, .int a2, .int a3]) hE hT hP hD hS hA 0 6 rfl rfl hh1) rfl rfl hl.1 rfl (lv_room (Nat.le_of_ble_eq_true rfl)) dL_law_889 ⟨by omega, by omega⟩) (fun r1 LX H locs hR hP hD hS => ?_)
  obtain ⟨er1, hI⟩ := hR
  refine lv_pop hx hb dL_law_892 rfl ?_
  refine lv_aload_n hx hb dL_law_893 rfl (lv_at hl 2 rfl) ?_
  refine lv_aload_n hx hb dL_law_894 rfl (lv_at hl 4 rfl) ?_
  refine lv_iload hx hb dL_law_895 (lv_at hl 0 rfl) ?_
  refine lv_iconst (v := 1) hx hb dL_law_897 (by decide) ?_
  refine lv_iadd hx hb dL_law_898 ?_
  refine va_sld hx hb hX hbl hbA hS (lk_in (d := 1) hi hk hL (by decide)) dL_law_899 ?_
  refine W.eq (g2 := F0 m 900 ls (.int a1 :: .ref m0 :: [])) (by rw [ea1]) ?_
  refine lv_aload_n hx hb dL_law_900 rfl (lv_at hl 4 rfl) ?_
  refine lv_iload hx hb dL_law_901 (lv_at hl 0 rfl) ?_
  refine lv_iconst (v := 2) hx hb dL_law_903 (by decide) ?_
  refine lv_iadd hx hb dL_law_904 ?_
  refine va_sld hx hb hX hbl hbA hS (lk_in (d := 2) hi hk hL (by decide)) dL_law_905 ?_
  refine W.eq (g2 := F0 m 906 ls (.int a2 :: .int a1 :: .ref m0 :: [])) (by rw [ea2]) ?_
  refine lv_aload_n hx hb dL_law_906 rfl (lv_at hl 4 rfl) ?_
  refine lv_iload hx hb dL_law_907 (lv_at hl 0 rfl) ?_
  refine lv_iconst (v := 3) hx hb dL_law_909 (by decide) ?_
  refine lv_iadd hx hb dL_law_910 ?_
  refine va_sld hx hb hX hbl hbA hS (lk_in (d := 3) hi hk hL (by decide)) dL_law_911 ?_
  refine W.eq (g2 := F0 m 912 ls (.int a3 :: .int a2 :: .int a1 :: .ref m0 :: [])) (by rw [ea3]) ?_
  obtain ⟨q2, hh2⟩ := hJ.head
  refine lc_i (U := []) (C := LM) (V := LX ++ [(o0, .inl (ak 1, 1, .inr (.inl fo)))]) hP hD hS hA (va_runV (As := [.int a1, .int a2, .int a3]) (rest := []) ⟨hx, hb, hml, hown, hts⟩ (m_lasts l D ak ad _ m0 v LM a1 a2 a3 hJ) (cwV 3 hts hG_X8_lasts rfl rfl rfl (by decide +kernel) ⟨Nat.le_of_ble_eq_true rfl, Nat.le_of_ble_eq_true rfl⟩) (lc_preV (U := []) (C := LM) (V := LX ++ [(o0, .inl (ak 1, 1, .inr (.inl fo)))]) (As := [.int a1, .int a2, .int a3]) hE hT hP hD hS hA 0 7 rfl rfl hh2) rfl rfl hl.1 rfl (lv_room (Nat.le_of_ble_eq_true rfl)) dL_law_912 ⟨by omega, by omega⟩) (fun r2 LM H locs hR hP hD hS => ?_)
  obtain ⟨er2, hJ⟩ := hR
  have hP : va_P D vwCl (LM ++ (LX ++ [(o0, .inl (ak 1, 1, .inr (.inl fo)))])) H := hP
  have hD : va_D A (LM ++ (LX ++ [(o0, .inl (ak 1, 1, .inr (.inl fo)))])) := hD
  refine lv_pop hx hb dL_law_915 rfl ?_
  refine lv_goto (tgt := 1047) hx hb dL_law_916 (by decide) ?_
  refine W.widen (k := cells + 15) (n := slots + 1133) (by omega) (by omega) ?_
  exact kk _ LX LM fo H locs ls hI hJ hP hD hS (lv_sub hl [0, 1, 2, 3, 4] rfl)
set_option maxHeartbeats 4000000 in
set_option maxRecDepth 100000 in
theorem lk_23 {p : Program} {e : Env} {s : State} {m : MethodId} {below : List Frame} {meth : Method} {c : Code} (l : Launch) {b L : Nat} {xs : Nat → Int32} (C0 : lw_At p s m meth c b L xs) {A : Nat → Prop} (hAe : A = fun q => s.heap.size ≤ q) {D : va_G} {ak : Nat → ClassId} {ad : Nat → Nat} (hl0 : l.stackTraces = false) (hE : EV D ak s) (hT : ST D ak ad A s s.heap) (hXE : XE A s s.heap) {o0 m0 x0 : Nat} {i : Int32} {k cells slots : Nat} (hi : i = nI k) (hk : k + 7 ≤ L) (hL : L ≤ 3584) (hc : cells + 15 ≤ room_1.cells) (hs : slots + 1133 ≤ room_1.slots) (kk : LGo p l e s m b below meth c D ak ad A o0 m0 x0 i 1047 (cells + 15) (slots + 1133)) : LGo p l e s m b below meth c D ak ad A o0 m0 x0 i 919 cells slots := by
  obtain ⟨hx, hb, hr, hml, hown, hts, hX, hbl, hlocks, hgv⟩ := id C0
  have hown : s.vm.findClass RL = some m.cls := hown
  have hA : ∀ q : Nat, s.heap.size ≤ q → A q := fun q h => by rw [hAe]; exact h
  have hbA : ¬ A b := by rw [hAe]; exact Nat.not_le.mpr hbl
  intro v LX LM fo H locs ls hI hJ hP hD hS hl
  refine lv_aload_n hx hb dL_law_919 rfl (lv_at hl 3 rfl) ?_
  refine lv_aload_n hx hb dL_law_920 rfl (lv_at hl 4 rfl) ?_
  refine lv_iload hx hb dL_law_921 (lv_at hl 0 rfl) ?_
  refine lv_iconst (v := 1) hx hb dL_law_923 (by decide) ?_
  refine lv_iadd hx hb dL_law_924 ?_
  refine va_sld hx hb hX hbl hbA hS (lk_in (d := 1) hi hk hL (by decide)) dL_law_925 ?_
  refine lv_topi (fun a1 ea1 => ?_)
  obtain ⟨q1, hh1⟩ := hI.head
  refine lc_i (U := LM) (C := LX) (V := [(o0, .inl (ak 1, 1, .inr (.inl fo)))]) hP hD hS hA (va_runV (As := [.int a1]) (rest := []) ⟨hx, hb, hml, hown, hts⟩ (x_better l D ak ad _ x0 v LX a1 hI) (cwV 1 hts hG_X7_better rfl rfl rfl (by decide +kernel) ⟨Nat.le_of_ble_eq_true rfl, Nat.le_of_ble_eq_true rfl⟩) (lc_preV (U := LM) (C := LX) (V := [(o0, .inl (ak 1, 1, .inr (.inl fo)))]) (As := [.int a1]) hE hT hP hD hS hA 0 6 rfl rfl hh1) rfl rfl hl.1 rfl (lv_room (Nat.le_of_ble_eq_true rfl)) dL_law_926 ⟨by omega, by omega⟩) (fun r1 LX H locs hR hP hD hS => ?_)
  have hI := hR
  refine lv_pop hx hb dL_law_929 rfl ?_
  refine lv_aload_n hx hb dL_law_930 rfl (lv_at hl 2 rfl) ?_
  refine lv_aload_n hx hb dL_law_931 rfl (lv_at hl 4 rfl) ?_
  refine lv_iload hx hb dL_law_932 (lv_at hl 0 rfl) ?_
  refine lv_iconst (v := 1) hx hb dL_law_934 (by decide) ?_
  refine lv_iadd hx hb dL_law_935 ?_
  refine va_sld hx hb hX hbl hbA hS (lk_in (d := 1) hi hk hL (by decide)) dL_law_936 ?_
  refine W.eq (g2 := F0 m 937 ls (.int a1 :: .ref m0 :: [])) (by rw [ea1]) ?_
  obtain ⟨q2, hh2⟩ := hJ.head
  refine lc_i (U := []) (C := LM) (V := LX ++ [(o0, .inl (ak 1, 1, .inr (.inl fo)))]) hP hD hS hA (va_runV (As := [.int a1]) (rest := []) ⟨hx, hb, hml, hown, hts⟩ (m_better l D ak ad _ m0 v LM a1 hJ) (cwV 1 hts hG_X8_better rfl rfl rfl (by decide +kernel) ⟨Nat.le_of_ble_eq_true rfl, Nat.le_of_ble_eq_true rfl⟩) (lc_preV (U := []) (C := LM) (V := LX ++ [(o0, .inl (ak 1, 1, .inr (.inl fo)))]) (As := [.int a1]) hE hT hP hD hS hA 0 7 rfl rfl hh2) rfl rfl hl.1 rfl (lv_room (Nat.le_of_ble_eq_true rfl)) dL_law_937 ⟨by omega, by omega⟩) (fun r2 LM H locs hR hP hD hS => ?_)
  have hJ := hR
  have hP : va_P D vwCl (LM ++ (LX ++ [(o0, .inl (ak 1, 1, .inr (.inl fo)))])) H := hP
  have hD : va_D A (LM ++ (LX ++ [(o0, .inl (ak 1, 1, .inr (.inl fo)))])) := hD
  refine lv_pop hx hb dL_law_940 rfl ?_
  refine lv_goto (tgt := 1047) hx hb dL_law_941 (by decide) ?_
  refine W.widen (k := cells + 15) (n := slots + 1133) (by omega) (by omega) ?_
  exact kk _ LX LM fo H locs ls hI hJ hP hD hS (lv_sub hl [0, 1, 2, 3, 4] rfl)
set_option maxHeartbeats 4000000 in
set_option maxRecDepth 100000 in
theorem lk_26 {p : Program} {e : Env} {s : State} {m : MethodId} {below : List Frame} {meth : Method} {c : Code} (l : Launch) {b L : Nat} {xs : Nat → Int32} (C0 : lw_At p s m meth c b L xs) {A : Nat → Prop} (hAe : A = fun q => s.heap.size ≤ q) {D : va_G} {ak : Nat → ClassId} {ad : Nat → Nat} (hl0 : l.stackTraces = false) (hE : EV D ak s) (hT : ST D ak ad A s s.heap) (hXE : XE A s s.heap) {o0 m0 x0 : Nat} {i : Int32} {k cells slots : Nat} (hi : i = nI k) (hk : k + 7 ≤ L) (hL : L ≤ 3584) (hc : cells + 15 ≤ room_1.cells) (hs : slots + 1133 ≤ room_1.slots) (kk : LGo p l e s m b below meth c D ak ad A o0 m0 x0 i 1047 (cells + 15) (slots + 1133)) : LGo p l e s m b below meth c D ak ad A o0 m0 x0 i 1022 cells slots := by
  obtain ⟨hx, hb, hr, hml, hown, hts, hX, hbl, hlocks, hgv⟩ := id C0
  have hown : s.vm.findClass RL = some m.cls := hown
  have hA : ∀ q : Nat, s.heap.size ≤ q → A q := fun q h => by rw [hAe]; exact h
  have hbA : ¬ A b := by rw [hAe]; exact Nat.not_le.mpr hbl
  intro v LX LM fo H locs ls hI hJ hP hD hS hl
  refine lv_aload_n hx hb dL_law_1022 rfl (lv_at hl 3 rfl) ?_
  refine lv_aload_n hx hb dL_law_1023 rfl (lv_at hl 4 rfl) ?_
  refine lv_iload hx hb dL_law_1024 (lv_at hl 0 rfl) ?_
  refine lv_iconst (v := 1) hx hb dL_law_1026 (by decide) ?_
  refine lv_iadd hx hb dL_law_1027 ?_
  refine va_sld hx hb hX hbl hbA hS (lk_in (d := 1) hi hk hL (by decide)) dL_law_1028 ?_
  refine lv_topi (fun a1 ea1 => ?_)
  obtain ⟨q1, hh1⟩ := hI.head
  refine lc_i (U := LM) (C := LX) (V := [(o0, .inl (ak 1, 1, .inr (.inl fo)))]) hP hD hS hA (va_runV (As := [.int a1]) (rest := []) ⟨hx, hb, hml, hown, hts⟩ (x_count l D ak ad _ x0 v LX a1 hI) (cwV 1 hts hG_X7_count rfl rfl rfl (by decide +kernel) ⟨Nat.le_of_ble_eq_true rfl, Nat.le_of_ble_eq_true rfl⟩) (lc_preV (U := LM) (C := LX) (V := [(o0, .inl (ak 1, 1, .inr (.inl fo)))]) (As := [.int a1]) hE hT hP hD hS hA 0 6 rfl rfl hh1) rfl rfl hl.1 rfl (lv_room (Nat.le_of_ble_eq_true rfl)) dL_law_1029 ⟨by omega, by omega⟩) (fun r1 LX H locs hR hP hD hS => ?_)
  obtain ⟨er1, hI⟩ := hR
  refine lv_pop hx hb dL_law_1032 rfl ?_
  refine lv_aload_n hx hb dL_law_1033 rfl (lv_at hl 2 rfl) ?_
  refine lv_aload_n hx hb dL_law_1034 rfl (lv_at hl 4 rfl) ?_
  refine lv_iload hx hb dL_law_1035 (lv_at hl 0 rfl) ?_
  refine lv_iconst (v := 1) hx hb dL_law_1037 (by decide) ?_
  refine lv_iadd hx hb dL_law_1038 ?_
  refine va_sld hx hb hX hbl hbA hS (lk_in (d := 1) hi hk hL (by decide)) dL_law_1039 ?_
  refine W.eq (g2 := F0 m 1040 ls (.int a1 :: .ref m0 :: [])) (by rw [ea1]) ?_
  obtain ⟨q2, hh2⟩ := hJ.head
  refine lc_i (U := []) (C := LM) (V := LX ++ [(o0, .inl (ak 1, 1, .inr (.inl fo)))]) hP hD hS hA (va_runV (As := [.int a1]) (rest := []) ⟨hx, hb, hml, hown, hts⟩ (m_count l D ak ad _ m0 v LM a1 hJ) (cwV 1 hts hG_X8_count rfl rfl rfl (by decide +kernel) ⟨Nat.le_of_ble_eq_true rfl, Nat.le_of_ble_eq_true rfl⟩) (lc_preV (U := []) (C := LM) (V := LX ++ [(o0, .inl (ak 1, 1, .inr (.inl fo)))]) (As := [.int a1]) hE hT hP hD hS hA 0 7 rfl rfl hh2) rfl rfl hl.1 rfl (lv_room (Nat.le_of_ble_eq_true rfl)) dL_law_1040 ⟨by omega, by omega⟩) (fun r2 LM H locs hR hP hD hS => ?_)
  obtain ⟨er2, hJ⟩ := hR
  have hP : va_P D vwCl (LM ++ (LX ++ [(o0, .inl (ak 1, 1, .inr (.inl fo)))])) H := hP
  have hD : va_D A (LM ++ (LX ++ [(o0, .inl (ak 1, 1, .inr (.inl fo)))])) := hD
  refine lv_pop hx hb dL_law_1043 rfl ?_
  refine lv_goto (tgt := 1047) hx hb dL_law_1044 (by decide) ?_
  refine W.widen (k := cells + 15) (n := slots + 1133) (by omega) (by omega) ?_
  exact kk _ LX LM fo H locs ls hI hJ hP hD hS (lv_sub hl [0, 1, 2, 3, 4] rfl)
