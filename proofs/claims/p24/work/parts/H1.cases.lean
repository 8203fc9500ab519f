theorem dL_law_654 : decode cL_law 654 = .ok (.aload_n 1, 1) := by decide +kernel
theorem dL_law_655 : decode cL_law 655 = .ok (.aload_n 0, 1) := by decide +kernel
theorem dL_law_656 : decode cL_law 656 = .ok (.iload 4, 2) := by decide +kernel
theorem dL_law_658 : decode cL_law 658 = .ok (.iconst 1, 1) := by decide +kernel
theorem dL_law_659 : decode cL_law 659 = .ok (.iadd, 1) := by decide +kernel
theorem dL_law_660 : decode cL_law 660 = .ok (.iaload, 1) := by decide +kernel
theorem dL_law_661 : decode cL_law 661 = .ok (.invokevirtual 87, 3) := by decide +kernel
theorem dL_law_664 : decode cL_law 664 = .ok (.pop, 1) := by decide +kernel
theorem dL_law_665 : decode cL_law 665 = .ok (.aload_n 2, 1) := by decide +kernel
theorem dL_law_666 : decode cL_law 666 = .ok (.aload_n 0, 1) := by decide +kernel
theorem dL_law_667 : decode cL_law 667 = .ok (.iload 4, 2) := by decide +kernel
theorem dL_law_669 : decode cL_law 669 = .ok (.iconst 1, 1) := by decide +kernel
theorem dL_law_670 : decode cL_law 670 = .ok (.iadd, 1) := by decide +kernel
theorem dL_law_671 : decode cL_law 671 = .ok (.iaload, 1) := by decide +kernel
theorem dL_law_672 : decode cL_law 672 = .ok (.invokevirtual 90, 3) := by decide +kernel
theorem dL_law_675 : decode cL_law 675 = .ok (.pop, 1) := by decide +kernel
theorem dL_law_676 : decode cL_law 676 = .ok (.goto 343, 3) := by decide +kernel
theorem dL_law_679 : decode cL_law 679 = .ok (.aload_n 1, 1) := by decide +kernel
theorem dL_law_680 : decode cL_law 680 = .ok (.aload_n 0, 1) := by decide +kernel
theorem dL_law_681 : decode cL_law 681 = .ok (.iload 4, 2) := by decide +kernel
theorem dL_law_683 : decode cL_law 683 = .ok (.iconst 1, 1) := by decide +kernel
theorem dL_law_684 : decode cL_law 684 = .ok (.iadd, 1) := by decide +kernel
theorem dL_law_685 : decode cL_law 685 = .ok (.iaload, 1) := by decide +kernel
theorem dL_law_686 : decode cL_law 686 = .ok (.invokevirtual 91, 3) := by decide +kernel
theorem dL_law_689 : decode cL_law 689 = .ok (.pop, 1) := by decide +kernel
theorem dL_law_690 : decode cL_law 690 = .ok (.aload_n 2, 1) := by decide +kernel
theorem dL_law_691 : decode cL_law 691 = .ok (.aload_n 0, 1) := by decide +kernel
theorem dL_law_692 : decode cL_law 692 = .ok (.iload 4, 2) := by decide +kernel
theorem dL_law_694 : decode cL_law 694 = .ok (.iconst 1, 1) := by decide +kernel
theorem dL_law_695 : decode cL_law 695 = .ok (.iadd, 1) := by decide +kernel
theorem dL_law_696 : decode cL_law 696 = .ok (.iaload, 1) := by decide +kernel
theorem dL_law_697 : decode cL_law 697 = .ok (.invokevirtual 94, 3) := by decide +kernel
theorem dL_law_700 : decode cL_law 700 = .ok (.pop, 1) := by decide +kernel
theorem dL_law_701 : decode cL_law 701 = .ok (.goto 318, 3) := by decide +kernel
theorem dL_law_704 : decode cL_law 704 = .ok (.aload_n 1, 1) := by decide +kernel
theorem dL_law_705 : decode cL_law 705 = .ok (.aload_n 0, 1) := by decide +kernel
theorem dL_law_706 : decode cL_law 706 = .ok (.iload 4, 2) := by decide +kernel
theorem dL_law_708 : decode cL_law 708 = .ok (.iconst 1, 1) := by decide +kernel
theorem dL_law_709 : decode cL_law 709 = .ok (.iadd, 1) := by decide +kernel
theorem dL_law_710 : decode cL_law 710 = .ok (.iaload, 1) := by decide +kernel
theorem dL_law_711 : decode cL_law 711 = .ok (.aload_n 0, 1) := by decide +kernel
theorem dL_law_712 : decode cL_law 712 = .ok (.iload 4, 2) := by decide +kernel
theorem dL_law_714 : decode cL_law 714 = .ok (.iconst 2, 1) := by decide +kernel
theorem dL_law_715 : decode cL_law 715 = .ok (.iadd, 1) := by decide +kernel
theorem dL_law_716 : decode cL_law 716 = .ok (.iaload, 1) := by decide +kernel
theorem dL_law_717 : decode cL_law 717 = .ok (.invokevirtual 95, 3) := by decide +kernel
theorem dL_law_720 : decode cL_law 720 = .ok (.pop, 1) := by decide +kernel
theorem dL_law_721 : decode cL_law 721 = .ok (.aload_n 2, 1) := by decide +kernel
theorem dL_law_722 : decode cL_law 722 = .ok (.aload_n 0, 1) := by decide +kernel
theorem dL_law_723 : decode cL_law 723 = .ok (.iload 4, 2) := by decide +kernel
theorem dL_law_725 : decode cL_law 725 = .ok (.iconst 1, 1) := by decide +kernel
theorem dL_law_726 : decode cL_law 726 = .ok (.iadd, 1) := by decide +kernel
theorem dL_law_727 : decode cL_law 727 = .ok (.iaload, 1) := by decide +kernel
theorem dL_law_728 : decode cL_law 728 = .ok (.aload_n 0, 1) := by decide +kernel
theorem dL_law_729 : decode cL_law 729 = .ok (.iload 4, 2) := by decide +kernel
theorem dL_law_731 : decode cL_law 731 = .ok (.iconst 2, 1) := by decide +kernel
theorem dL_law_732 : decode cL_law 732 = .ok (.iadd, 1) := by decide +kernel
theorem dL_law_733 : decode cL_law 733 = .ok (.iaload, 1) := by decide +kernel
theorem dL_law_734 : decode cL_law 734 = .ok (.invokevirtual 98, 3) := by decide +kernel
theorem dL_law_737 : decode cL_law 737 = .ok (.pop, 1) := by decide +kernel
theorem dL_law_738 : decode cL_law 738 = .ok (.goto 281, 3) := by decide +kernel
theorem dL_law_741 : decode cL_law 741 = .ok (.aload_n 1, 1) := by decide +kernel
theorem dL_law_742 : decode cL_law 742 = .ok (.invokevirtual 99, 3) := by decide +kernel
theorem dL_law_745 : decode cL_law 745 = .ok (.pop, 1) := by decide +kernel
theorem dL_law_746 : decode cL_law 746 = .ok (.aload_n 2, 1) := by decide +kernel
theorem dL_law_747 : decode cL_law 747 = .ok (.invokevirtual 102, 3) := by decide +kernel
theorem dL_law_750 : decode cL_law 750 = .ok (.pop, 1) := by decide +kernel
theorem dL_law_751 : decode cL_law 751 = .ok (.goto 268, 3) := by decide +kernel
theorem dL_law_754 : decode cL_law 754 = .ok (.aload_n 1, 1) := by decide +kernel
theorem dL_law_755 : decode cL_law 755 = .ok (.aload_n 0, 1) := by decide +kernel
theorem dL_law_756 : decode cL_law 756 = .ok (.iload 4, 2) := by decide +kernel
theorem dL_law_758 : decode cL_law 758 = .ok (.iconst 1, 1) := by decide +kernel
theorem dL_law_759 : decode cL_law 759 = .ok (.iadd, 1) := by decide +kernel
theorem dL_law_760 : decode cL_law 760 = .ok (.iaload, 1) := by decide +kernel
theorem dL_law_761 : decode cL_law 761 = .ok (.invokevirtual 103, 3) := by decide +kernel
theorem dL_law_764 : decode cL_law 764 = .ok (.pop, 1) := by decide +kernel
theorem dL_law_765 : decode cL_law 765 = .ok (.aload_n 2, 1) := by decide +kernel
theorem dL_law_766 : decode cL_law 766 = .ok (.aload_n 0, 1) := by decide +kernel
theorem dL_law_767 : decode cL_law 767 = .ok (.iload 4, 2) := by decide +kernel
theorem dL_law_769 : decode cL_law 769 = .ok (.iconst 1, 1) := by decide +kernel
theorem dL_law_770 : decode cL_law 770 = .ok (.iadd, 1) := by decide +kernel
theorem dL_law_771 : decode cL_law 771 = .ok (.iaload, 1) := by decide +kernel
theorem dL_law_772 : decode cL_law 772 = .ok (.invokevirtual 106, 3) := by decide +kernel
theorem dL_law_775 : decode cL_law 775 = .ok (.pop, 1) := by decide +kernel
theorem dL_law_776 : decode cL_law 776 = .ok (.goto 243, 3) := by decide +kernel
theorem dL_law_779 : decode cL_law 779 = .ok (.aload_n 1, 1) := by decide +kernel
theorem dL_law_780 : decode cL_law 780 = .ok (.invokevirtual 107, 3) := by decide +kernel
theorem dL_law_783 : decode cL_law 783 = .ok (.pop, 1) := by decide +kernel
theorem dL_law_784 : decode cL_law 784 = .ok (.aload_n 2, 1) := by decide +kernel
theorem dL_law_785 : decode cL_law 785 = .ok (.invokevirtual 110, 3) := by decide +kernel
theorem dL_law_788 : decode cL_law 788 = .ok (.pop, 1) := by decide +kernel
theorem dL_law_789 : decode cL_law 789 = .ok (.goto 230, 3) := by decide +kernel
theorem dL_law_792 : decode cL_law 792 = .ok (.aload_n 1, 1) := by decide +kernel
theorem dL_law_793 : decode cL_law 793 = .ok (.aload_n 0, 1) := by decide +kernel
theorem dL_law_794 : decode cL_law 794 = .ok (.iload 4, 2) := by decide +kernel
theorem dL_law_796 : decode cL_law 796 = .ok (.iconst 1, 1) := by decide +kernel
theorem dL_law_797 : decode cL_law 797 = .ok (.iadd, 1) := by decide +kernel
theorem dL_law_798 : decode cL_law 798 = .ok (.iaload, 1) := by decide +kernel
theorem dL_law_799 : decode cL_law 799 = .ok (.invokevirtual 111, 3) := by decide +kernel
theorem dL_law_802 : decode cL_law 802 = .ok (.pop, 1) := by decide +kernel
theorem dL_law_803 : decode cL_law 803 = .ok (.aload_n 2, 1) := by decide +kernel
theorem dL_law_804 : decode cL_law 804 = .ok (.aload_n 0, 1) := by decide +kernel
theorem dL_law_805 : decode cL_law 805 = .ok (.iload 4, 2) := by decide +kernel
theorem dL_law_807 : decode cL_law 807 = .ok (.iconst 1, 1) := by decide +kernel
theorem dL_law_808 : decode cL_law 808 = .ok (.iadd, 1) := by decide +kernel
theorem dL_law_809 : decode cL_law 809 = .ok (.iaload, 1) := by decide +kernel
theorem dL_law_810 : decode cL_law 810 = .ok (.invokevirtual 114, 3) := by decide +kernel
theorem dL_law_813 : decode cL_law 813 = .ok (.pop, 1) := by decide +kernel
theorem dL_law_814 : decode cL_law 814 = .ok (.goto 205, 3) := by decide +kernel
theorem dL_law_817 : decode cL_law 817 = .ok (.aload_n 1, 1) := by decide +kernel
theorem dL_law_818 : decode cL_law 818 = .ok (.aload_n 0, 1) := by decide +kernel
theorem dL_law_819 : decode cL_law 819 = .ok (.iload 4, 2) := by decide +kernel
theorem dL_law_821 : decode cL_law 821 = .ok (.iconst 1, 1) := by decide +kernel
theorem dL_law_822 : decode cL_law 822 = .ok (.iadd, 1) := by decide +kernel
theorem dL_law_823 : decode cL_law 823 = .ok (.iaload, 1) := by decide +kernel
theorem dL_law_824 : decode cL_law 824 = .ok (.invokevirtual 115, 3) := by decide +kernel
theorem dL_law_827 : decode cL_law 827 = .ok (.pop, 1) := by decide +kernel
theorem dL_law_828 : decode cL_law 828 = .ok (.aload_n 2, 1) := by decide +kernel
theorem dL_law_829 : decode cL_law 829 = .ok (.aload_n 0, 1) := by decide +kernel
theorem dL_law_830 : decode cL_law 830 = .ok (.iload 4, 2) := by decide +kernel
theorem dL_law_832 : decode cL_law 832 = .ok (.iconst 1, 1) := by decide +kernel
theorem dL_law_833 : decode cL_law 833 = .ok (.iadd, 1) := by decide +kernel
theorem dL_law_834 : decode cL_law 834 = .ok (.iaload, 1) := by decide +kernel
theorem dL_law_835 : decode cL_law 835 = .ok (.invokevirtual 118, 3) := by decide +kernel
theorem dL_law_838 : decode cL_law 838 = .ok (.pop, 1) := by decide +kernel
theorem dL_law_839 : decode cL_law 839 = .ok (.goto 180, 3) := by decide +kernel
theorem dL_law_842 : decode cL_law 842 = .ok (.aload_n 1, 1) := by decide +kernel
theorem dL_law_843 : decode cL_law 843 = .ok (.aload_n 0, 1) := by decide +kernel
theorem dL_law_844 : decode cL_law 844 = .ok (.iload 4, 2) := by decide +kernel
theorem dL_law_846 : decode cL_law 846 = .ok (.iconst 1, 1) := by decide +kernel
theorem dL_law_847 : decode cL_law 847 = .ok (.iadd, 1) := by decide +kernel
theorem dL_law_848 : decode cL_law 848 = .ok (.iaload, 1) := by decide +kernel
theorem dL_law_849 : decode cL_law 849 = .ok (.aload_n 0, 1) := by decide +kernel
theorem dL_law_850 : decode cL_law 850 = .ok (.iload 4, 2) := by decide +kernel
theorem dL_law_852 : decode cL_law 852 = .ok (.iconst 2, 1) := by decide +kernel
theorem dL_law_853 : decode cL_law 853 = .ok (.iadd, 1) := by decide +kernel
theorem dL_law_854 : decode cL_law 854 = .ok (.iaload, 1) := by decide +kernel
theorem dL_law_855 : decode cL_law 855 = .ok (.aload_n 0, 1) := by decide +kernel
theorem dL_law_856 : decode cL_law 856 = .ok (.iload 4, 2) := by decide +kernel
theorem dL_law_858 : decode cL_law 858 = .ok (.iconst 3, 1) := by decide +kernel
theorem dL_law_859 : decode cL_law 859 = .ok (.iadd, 1) := by decide +kernel
theorem dL_law_860 : decode cL_law 860 = .ok (.iaload, 1) := by decide +kernel
theorem dL_law_861 : decode cL_law 861 = .ok (.invokevirtual 119, 3) := by decide +kernel
theorem dL_law_864 : decode cL_law 864 = .ok (.aload_n 2, 1) := by decide +kernel
theorem dL_law_865 : decode cL_law 865 = .ok (.aload_n 0, 1) := by decide +kernel
theorem dL_law_866 : decode cL_law 866 = .ok (.iload 4, 2) := by decide +kernel
theorem dL_law_868 : decode cL_law 868 = .ok (.iconst 1, 1) := by decide +kernel
theorem dL_law_869 : decode cL_law 869 = .ok (.iadd, 1) := by decide +kernel
theorem dL_law_870 : decode cL_law 870 = .ok (.iaload, 1) := by decide +kernel
theorem dL_law_871 : decode cL_law 871 = .ok (.aload_n 0, 1) := by decide +kernel
theorem dL_law_872 : decode cL_law 872 = .ok (.iload 4, 2) := by decide +kernel
theorem dL_law_874 : decode cL_law 874 = .ok (.iconst 2, 1) := by decide +kernel
theorem dL_law_875 : decode cL_law 875 = .ok (.iadd, 1) := by decide +kernel
theorem dL_law_876 : decode cL_law 876 = .ok (.iaload, 1) := by decide +kernel
theorem dL_law_877 : decode cL_law 877 = .ok (.aload_n 0, 1) := by decide +kernel
theorem dL_law_878 : decode cL_law 878 = .ok (.iload 4, 2) := by decide +kernel
theorem dL_law_880 : decode cL_law 880 = .ok (.iconst 3, 1) := by decide +kernel
theorem dL_law_881 : decode cL_law 881 = .ok (.iadd, 1) := by decide +kernel
theorem dL_law_882 : decode cL_law 882 = .ok (.iaload, 1) := by decide +kernel
theorem dL_law_883 : decode cL_law 883 = .ok (.invokevirtual 123, 3) := by decide +kernel
theorem dL_law_886 : decode cL_law 886 = .ok (.if_icmp .eq 133, 3) := by decide +kernel
theorem dL_law_891 : decode cL_law 891 = .ok (.aload_n 1, 1) := by decide +kernel
theorem dL_law_892 : decode cL_law 892 = .ok (.aload_n 0, 1) := by decide +kernel
theorem dL_law_893 : decode cL_law 893 = .ok (.iload 4, 2) := by decide +kernel
theorem dL_law_895 : decode cL_law 895 = .ok (.iconst 1, 1) := by decide +kernel
theorem dL_law_896 : decode cL_law 896 = .ok (.iadd, 1) := by decide +kernel
theorem dL_law_897 : decode cL_law 897 = .ok (.iaload, 1) := by decide +kernel
theorem dL_law_898 : decode cL_law 898 = .ok (.invokevirtual 124, 3) := by decide +kernel
theorem dL_law_901 : decode cL_law 901 = .ok (.pop, 1) := by decide +kernel
theorem dL_law_902 : decode cL_law 902 = .ok (.aload_n 2, 1) := by decide +kernel
theorem dL_law_903 : decode cL_law 903 = .ok (.aload_n 0, 1) := by decide +kernel
theorem dL_law_904 : decode cL_law 904 = .ok (.iload 4, 2) := by decide +kernel
theorem dL_law_906 : decode cL_law 906 = .ok (.iconst 1, 1) := by decide +kernel
theorem dL_law_907 : decode cL_law 907 = .ok (.iadd, 1) := by decide +kernel
theorem dL_law_908 : decode cL_law 908 = .ok (.iaload, 1) := by decide +kernel
theorem dL_law_909 : decode cL_law 909 = .ok (.invokevirtual 127, 3) := by decide +kernel
theorem dL_law_912 : decode cL_law 912 = .ok (.pop, 1) := by decide +kernel
theorem dL_law_913 : decode cL_law 913 = .ok (.goto 106, 3) := by decide +kernel
theorem dL_law_994 : decode cL_law 994 = .ok (.aload_n 1, 1) := by decide +kernel
theorem dL_law_995 : decode cL_law 995 = .ok (.aload_n 0, 1) := by decide +kernel
theorem dL_law_996 : decode cL_law 996 = .ok (.iload 4, 2) := by decide +kernel
theorem dL_law_998 : decode cL_law 998 = .ok (.iconst 1, 1) := by decide +kernel
theorem dL_law_999 : decode cL_law 999 = .ok (.iadd, 1) := by decide +kernel
theorem dL_law_1000 : decode cL_law 1000 = .ok (.iaload, 1) := by decide +kernel
theorem dL_law_1001 : decode cL_law 1001 = .ok (.invokevirtual 137, 3) := by decide +kernel
theorem dL_law_1004 : decode cL_law 1004 = .ok (.pop, 1) := by decide +kernel
theorem dL_law_1005 : decode cL_law 1005 = .ok (.aload_n 2, 1) := by decide +kernel
theorem dL_law_1006 : decode cL_law 1006 = .ok (.aload_n 0, 1) := by decide +kernel
theorem dL_law_1007 : decode cL_law 1007 = .ok (.iload 4, 2) := by decide +kernel
theorem dL_law_1009 : decode cL_law 1009 = .ok (.iconst 1, 1) := by decide +kernel
theorem dL_law_1010 : decode cL_law 1010 = .ok (.iadd, 1) := by decide +kernel
theorem dL_law_1011 : decode cL_law 1011 = .ok (.iaload, 1) := by decide +kernel
theorem dL_law_1012 : decode cL_law 1012 = .ok (.invokevirtual 140, 3) := by decide +kernel
theorem dL_law_1015 : decode cL_law 1015 = .ok (.pop, 1) := by decide +kernel
theorem dL_law_1016 : decode cL_law 1016 = .ok (.goto 3, 3) := by decide +kernel
set_option maxHeartbeats 4000000 in
set_option maxRecDepth 100000 in
theorem lk_14 {p : Program} {e : Env} {s : State} {m : MethodId} {below : List Frame} {meth : Method} {c : Code} (l : Launch) {b L : Nat} {xs : Nat → Int32} (C0 : lw_At p s m meth c b L xs) {A : Nat → Prop} (hAe : A = fun q => s.heap.size ≤ q) {D : va_G} {ak : Nat → ClassId} {ad : Nat → Nat} (hl0 : l.stackTraces = false) (hE : EV D ak s) (hT : ST D ak ad A s s.heap) (hXE : XE A s s.heap) {o0 m0 x0 : Nat} {i : Int32} {k cells slots : Nat} (hi : i = nI k) (hk : k + 7 ≤ L) (hL : L ≤ 3584) (hc : cells + 15 ≤ room_1.cells) (hs : slots + 1133 ≤ room_1.slots) (kk : LGo p l e s m b below meth c D ak ad A o0 m0 x0 i 1019 (cells + 15) (slots + 1133)) : LGo p l e s m b below meth c D ak ad A o0 m0 x0 i 654 cells slots := by
  obtain ⟨hx, hb, hr, hml, hown, hts, hX, hbl, hlocks, hgv⟩ := id C0
  have hown : s.vm.findClass RL = some m.cls := hown
  have hA : ∀ q : Nat, s.heap.size ≤ q → A q := fun q h => by rw [hAe]; exact h
  have hbA : ¬ A b := by rw [hAe]; exact Nat.not_le.mpr hbl
  intro v LX LM fo H locs ls hI hJ hP hD hS hl
  refine lv_aload_n hx hb dL_law_654 rfl (lv_at hl 3 rfl) ?_
  refine lv_aload_n hx hb dL_law_655 rfl (lv_at hl 4 rfl) ?_
  refine lv_iload hx hb dL_law_656 (lv_at hl 0 rfl) ?_
  refine lv_iconst (v := 1) hx hb dL_law_658 (by decide) ?_
  refine lv_iadd hx hb dL_law_659 ?_
  refine va_sld hx hb hX hbl hbA hS (lk_in (d := 1) hi hk hL (by decide)) dL_law_660 ?_
  refine lv_topi (fun a1 ea1 => ?_)
  obtain ⟨q1, hh1⟩ := hI.head
  refine lc_i (U := LM) (C := LX) (V := [(o0, .inl (ak 1, 1, .inr (.inl fo)))]) hP hD hS hA (va_runV (As := [.int a1]) (rest := []) ⟨hx, hb, hml, hown, hts⟩ (x_steps l D ak ad _ x0 v LX a1 hI) (cwV 1 hts hG_X7_steps rfl rfl rfl hv_X7_steps ⟨Nat.le_of_ble_eq_true rfl, Nat.le_of_ble_eq_true rfl⟩) (lc_preV (U := LM) (C := LX) (V := [(o0, .inl (ak 1, 1, .inr (.inl fo)))]) (As := [.int a1]) hE hT hP hD hS hA 0 6 rfl rfl hh1) rfl rfl hl.1 rfl (lv_room (Nat.le_of_ble_eq_true rfl)) dL_law_661 ⟨by omega, by omega⟩) (fun r1 LX H locs hR hP hD hS => ?_)
  obtain ⟨er1, hI⟩ := hR
  refine lv_pop hx hb dL_law_664 rfl ?_
  refine lv_aload_n hx hb dL_law_665 rfl (lv_at hl 2 rfl) ?_
  refine lv_aload_n hx hb dL_law_666 rfl (lv_at hl 4 rfl) ?_
  refine lv_iload hx hb dL_law_667 (lv_at hl 0 rfl) ?_
  refine lv_iconst (v := 1) hx hb dL_law_669 (by decide) ?_
  refine lv_iadd hx hb dL_law_670 ?_
  refine va_sld hx hb hX hbl hbA hS (lk_in (d := 1) hi hk hL (by decide)) dL_law_671 ?_
  refine W.eq (g2 := F0 m 672 ls (.int a1 :: .ref m0 :: [])) (by rw [ea1]) ?_
  obtain ⟨q2, hh2⟩ := hJ.head
  refine lc_i (U := []) (C := LM) (V := LX ++ [(o0, .inl (ak 1, 1, .inr (.inl fo)))]) hP hD hS hA (va_runV (As := [.int a1]) (rest := []) ⟨hx, hb, hml, hown, hts⟩ (m_steps l D ak ad _ m0 v LM a1 hJ) (cwV 1 hts hG_X8_steps rfl rfl rfl hv_X8_steps ⟨Nat.le_of_ble_eq_true rfl, Nat.le_of_ble_eq_true rfl⟩) (lc_preV (U := []) (C := LM) (V := LX ++ [(o0, .inl (ak 1, 1, .inr (.inl fo)))]) (As := [.int a1]) hE hT hP hD hS hA 0 7 rfl rfl hh2) rfl rfl hl.1 rfl (lv_room (Nat.le_of_ble_eq_true rfl)) dL_law_672 ⟨by omega, by omega⟩) (fun r2 LM H locs hR hP hD hS => ?_)
  obtain ⟨er2, hJ⟩ := hR
  have hP : va_P D vwCl (LM ++ (LX ++ [(o0, .inl (ak 1, 1, .inr (.inl fo)))])) H := hP
  have hD : va_D A (LM ++ (LX ++ [(o0, .inl (ak 1, 1, .inr (.inl fo)))])) := hD
  refine lv_pop hx hb dL_law_675 rfl ?_
  refine lv_goto (tgt := 1019) hx hb dL_law_676 (by decide) ?_
  refine W.widen (k := cells + 15) (n := slots + 1133) (by omega) (by omega) ?_
  exact kk _ LX LM fo H locs ls hI hJ hP hD hS (lv_sub hl [0, 1, 2, 3, 4] rfl)
set_option maxHeartbeats 4000000 in
set_option maxRecDepth 100000 in
theorem lk_15 {p : Program} {e : Env} {s : State} {m : MethodId} {below : List Frame} {meth : Method} {c : Code} (l : Launch) {b L : Nat} {xs : Nat → Int32} (C0 : lw_At p s m meth c b L xs) {A : Nat → Prop} (hAe : A = fun q => s.heap.size ≤ q) {D : va_G} {ak : Nat → ClassId} {ad : Nat → Nat} (hl0 : l.stackTraces = false) (hE : EV D ak s) (hT : ST D ak ad A s s.heap) (hXE : XE A s s.heap) {o0 m0 x0 : Nat} {i : Int32} {k cells slots : Nat} (hi : i = nI k) (hk : k + 7 ≤ L) (hL : L ≤ 3584) (hc : cells + 15 ≤ room_1.cells) (hs : slots + 1133 ≤ room_1.slots) (kk : LGo p l e s m b below meth c D ak ad A o0 m0 x0 i 1019 (cells + 15) (slots + 1133)) : LGo p l e s m b below meth c D ak ad A o0 m0 x0 i 679 cells slots := by
  obtain ⟨hx, hb, hr, hml, hown, hts, hX, hbl, hlocks, hgv⟩ := id C0
  have hown : s.vm.findClass RL = some m.cls := hown
  have hA : ∀ q : Nat, s.heap.size ≤ q → A q := fun q h => by rw [hAe]; exact h
  have hbA : ¬ A b := by rw [hAe]; exact Nat.not_le.mpr hbl
  intro v LX LM fo H locs ls hI hJ hP hD hS hl
  refine lv_aload_n hx hb dL_law_679 rfl (lv_at hl 3 rfl) ?_
  refine lv_aload_n hx hb dL_law_680 rfl (lv_at hl 4 rfl) ?_
  refine lv_iload hx hb dL_law_681 (lv_at hl 0 rfl) ?_
  refine lv_iconst (v := 1) hx hb dL_law_683 (by decide) ?_
  refine lv_iadd hx hb dL_law_684 ?_
  refine va_sld hx hb hX hbl hbA hS (lk_in (d := 1) hi hk hL (by decide)) dL_law_685 ?_
  refine lv_topi (fun a1 ea1 => ?_)
  obtain ⟨q1, hh1⟩ := hI.head
  refine lc_i (U := LM) (C := LX) (V := [(o0, .inl (ak 1, 1, .inr (.inl fo)))]) hP hD hS hA (va_runV (As := [.int a1]) (rest := []) ⟨hx, hb, hml, hown, hts⟩ (x_falls l D ak ad _ x0 v LX a1 hI) (cwV 1 hts hG_X7_falls rfl rfl rfl hv_X7_falls ⟨Nat.le_of_ble_eq_true rfl, Nat.le_of_ble_eq_true rfl⟩) (lc_preV (U := LM) (C := LX) (V := [(o0, .inl (ak 1, 1, .inr (.inl fo)))]) (As := [.int a1]) hE hT hP hD hS hA 0 6 rfl rfl hh1) rfl rfl hl.1 rfl (lv_room (Nat.le_of_ble_eq_true rfl)) dL_law_686 ⟨by omega, by omega⟩) (fun r1 LX H locs hR hP hD hS => ?_)
  obtain ⟨er1, hI⟩ := hR
  refine lv_pop hx hb dL_law_689 rfl ?_
  refine lv_aload_n hx hb dL_law_690 rfl (lv_at hl 2 rfl) ?_
  refine lv_aload_n hx hb dL_law_691 rfl (lv_at hl 4 rfl) ?_
  refine lv_iload hx hb dL_law_692 (lv_at hl 0 rfl) ?_
  refine lv_iconst (v := 1) hx hb dL_law_694 (by decide) ?_
  refine lv_iadd hx hb dL_law_695 ?_
  refine va_sld hx hb hX hbl hbA hS (lk_in (d := 1) hi hk hL (by decide)) dL_law_696 ?_
  refine W.eq (g2 := F0 m 697 ls (.int a1 :: .ref m0 :: [])) (by rw [ea1]) ?_
  obtain ⟨q2, hh2⟩ := hJ.head
  refine lc_i (U := []) (C := LM) (V := LX ++ [(o0, .inl (ak 1, 1, .inr (.inl fo)))]) hP hD hS hA (va_runV (As := [.int a1]) (rest := []) ⟨hx, hb, hml, hown, hts⟩ (m_falls l D ak ad _ m0 v LM a1 hJ) (cwV 1 hts hG_X8_falls rfl rfl rfl hv_X8_falls ⟨Nat.le_of_ble_eq_true rfl, Nat.le_of_ble_eq_true rfl⟩) (lc_preV (U := []) (C := LM) (V := LX ++ [(o0, .inl (ak 1, 1, .inr (.inl fo)))]) (As := [.int a1]) hE hT hP hD hS hA 0 7 rfl rfl hh2) rfl rfl hl.1 rfl (lv_room (Nat.le_of_ble_eq_true rfl)) dL_law_697 ⟨by omega, by omega⟩) (fun r2 LM H locs hR hP hD hS => ?_)
  obtain ⟨er2, hJ⟩ := hR
  have hP : va_P D vwCl (LM ++ (LX ++ [(o0, .inl (ak 1, 1, .inr (.inl fo)))])) H := hP
  have hD : va_D A (LM ++ (LX ++ [(o0, .inl (ak 1, 1, .inr (.inl fo)))])) := hD
  refine lv_pop hx hb dL_law_700 rfl ?_
  refine lv_goto (tgt := 1019) hx hb dL_law_701 (by decide) ?_
  refine W.widen (k := cells + 15) (n := slots + 1133) (by omega) (by omega) ?_
  exact kk _ LX LM fo H locs ls hI hJ hP hD hS (lv_sub hl [0, 1, 2, 3, 4] rfl)
set_option maxHeartbeats 4000000 in
set_option maxRecDepth 100000 in
theorem lk_16 {p : Program} {e : Env} {s : State} {m : MethodId} {below : List Frame} {meth : Method} {c : Code} (l : Launch) {b L : Nat} {xs : Nat → Int32} (C0 : lw_At p s m meth c b L xs) {A : Nat → Prop} (hAe : A = fun q => s.heap.size ≤ q) {D : va_G} {ak : Nat → ClassId} {ad : Nat → Nat} (hl0 : l.stackTraces = false) (hE : EV D ak s) (hT : ST D ak ad A s s.heap) (hXE : XE A s s.heap) {o0 m0 x0 : Nat} {i : Int32} {k cells slots : Nat} (hi : i = nI k) (hk : k + 7 ≤ L) (hL : L ≤ 3584) (hc : cells + 15 ≤ room_1.cells) (hs : slots + 1133 ≤ room_1.slots) (kk : LGo p l e s m b below meth c D ak ad A o0 m0 x0 i 1019 (cells + 15) (slots + 1133)) : LGo p l e s m b below meth c D ak ad A o0 m0 x0 i 704 cells slots := by
  obtain ⟨hx, hb, hr, hml, hown, hts, hX, hbl, hlocks, hgv⟩ := id C0
  have hown : s.vm.findClass RL = some m.cls := hown
  have hA : ∀ q : Nat, s.heap.size ≤ q → A q := fun q h => by rw [hAe]; exact h
  have hbA : ¬ A b := by rw [hAe]; exact Nat.not_le.mpr hbl
  intro v LX LM fo H locs ls hI hJ hP hD hS hl
  refine lv_aload_n hx hb dL_law_704 rfl (lv_at hl 3 rfl) ?_
  refine lv_aload_n hx hb dL_law_705 rfl (lv_at hl 4 rfl) ?_
  refine lv_iload hx hb dL_law_706 (lv_at hl 0 rfl) ?_
  refine lv_iconst (v := 1) hx hb dL_law_708 (by decide) ?_
  refine lv_iadd hx hb dL_law_709 ?_
  refine va_sld hx hb hX hbl hbA hS (lk_in (d := 1) hi hk hL (by decide)) dL_law_710 ?_
  refine lv_topi (fun a1 ea1 => ?_)
  refine lv_aload_n hx hb dL_law_711 rfl (lv_at hl 4 rfl) ?_
  refine lv_iload hx hb dL_law_712 (lv_at hl 0 rfl) ?_
  refine lv_iconst (v := 2) hx hb dL_law_714 (by decide) ?_
  refine lv_iadd hx hb dL_law_715 ?_
  refine va_sld hx hb hX hbl hbA hS (lk_in (d := 2) hi hk hL (by decide)) dL_law_716 ?_
  refine lv_topi (fun a2 ea2 => ?_)
  obtain ⟨q1, hh1⟩ := hI.head
  refine lc_i (U := LM) (C := LX) (V := [(o0, .inl (ak 1, 1, .inr (.inl fo)))]) hP hD hS hA (va_runV (As := [.int a1, .int a2]) (rest := []) ⟨hx, hb, hml, hown, hts⟩ (x_most l D ak ad _ x0 v LX a1 a2 hI) (cwV 2 hts hG_X7_most rfl rfl rfl hv_X7_most ⟨Nat.le_of_ble_eq_true rfl, Nat.le_of_ble_eq_true rfl⟩) (lc_preV (U := LM) (C := LX) (V := [(o0, .inl (ak 1, 1, .inr (.inl fo)))]) (As := [.int a1, .int a2]) hE hT hP hD hS hA 0 6 rfl rfl hh1) rfl rfl hl.1 rfl (lv_room (Nat.le_of_ble_eq_true rfl)) dL_law_717 ⟨by omega, by omega⟩) (fun r1 LX H locs hR hP hD hS => ?_)
  obtain ⟨er1, hI⟩ := hR
  refine lv_pop hx hb dL_law_720 rfl ?_
  refine lv_aload_n hx hb dL_law_721 rfl (lv_at hl 2 rfl) ?_
  refine lv_aload_n hx hb dL_law_722 rfl (lv_at hl 4 rfl) ?_
  refine lv_iload hx hb dL_law_723 (lv_at hl 0 rfl) ?_
  refine lv_iconst (v := 1) hx hb dL_law_725 (by decide) ?_
  refine lv_iadd hx hb dL_law_726 ?_
  refine va_sld hx hb hX hbl hbA hS (lk_in (d := 1) hi hk hL (by decide)) dL_law_727 ?_
  refine W.eq (g2 := F0 m 728 ls (.int a1 :: .ref m0 :: [])) (by rw [ea1]) ?_
  refine lv_aload_n hx hb dL_law_728 rfl (lv_at hl 4 rfl) ?_
  refine lv_iload hx hb dL_law_729 (lv_at hl 0 rfl) ?_
  refine lv_iconst (v := 2) hx hb dL_law_731 (by decide) ?_
  refine lv_iadd hx hb dL_law_732 ?_
  refine va_sld hx hb hX hbl hbA hS (lk_in (d := 2) hi hk hL (by decide)) dL_law_733 ?_
  refine W.eq (g2 := F0 m 734 ls (.int a2 :: .int a1 :: .ref m0 :: [])) (by rw [ea2]) ?_
  obtain ⟨q2, hh2⟩ := hJ.head
  refine lc_i (U := []) (C := LM) (V := LX ++ [(o0, .inl (ak 1, 1, .inr (.inl fo)))]) hP hD hS hA (va_runV (As := [.int a1, .int a2]) (rest := []) ⟨hx, hb, hml, hown, hts⟩ (m_most l D ak ad _ m0 v LM a1 a2 hJ) (cwV 2 hts hG_X8_most rfl rfl rfl hv_X8_most ⟨Nat.le_of_ble_eq_true rfl, Nat.le_of_ble_eq_true rfl⟩) (lc_preV (U := []) (C := LM) (V := LX ++ [(o0, .inl (ak 1, 1, .inr (.inl fo)))]) (As := [.int a1, .int a2]) hE hT hP hD hS hA 0 7 rfl rfl hh2) rfl rfl hl.1 rfl (lv_room (Nat.le_of_ble_eq_true rfl)) dL_law_734 ⟨by omega, by omega⟩) (fun r2 LM H locs hR hP hD hS => ?_)
  obtain ⟨er2, hJ⟩ := hR
  have hP : va_P D vwCl (LM ++ (LX ++ [(o0, .inl (ak 1, 1, .inr (.inl fo)))])) H := hP
  have hD : va_D A (LM ++ (LX ++ [(o0, .inl (ak 1, 1, .inr (.inl fo)))])) := hD
  refine lv_pop hx hb dL_law_737 rfl ?_
  refine lv_goto (tgt := 1019) hx hb dL_law_738 (by decide) ?_
  refine W.widen (k := cells + 15) (n := slots + 1133) (by omega) (by omega) ?_
  exact kk _ LX LM fo H locs ls hI hJ hP hD hS (lv_sub hl [0, 1, 2, 3, 4] rfl)
set_option maxHeartbeats 4000000 in
set_option maxRecDepth 100000 in
theorem lk_17 {p : Program} {e : Env} {s : State} {m : MethodId} {below : List Frame} {meth : Method} {c : Code} (l : Launch) {b L : Nat} {xs : Nat → Int32} (C0 : lw_At p s m meth c b L xs) {A : Nat → Prop} (hAe : A = fun q => s.heap.size ≤ q) {D : va_G} {ak : Nat → ClassId} {ad : Nat → Nat} (hl0 : l.stackTraces = false) (hE : EV D ak s) (hT : ST D ak ad A s s.heap) (hXE : XE A s s.heap) {o0 m0 x0 : Nat} {i : Int32} {k cells slots : Nat} (hi : i = nI k) (hk : k + 7 ≤ L) (hL : L ≤ 3584) (hc : cells + 15 ≤ room_1.cells) (hs : slots + 1133 ≤ room_1.slots) (kk : LGo p l e s m b below meth c D ak ad A o0 m0 x0 i 1019 (cells + 15) (slots + 1133)) : LGo p l e s m b below meth c D ak ad A o0 m0 x0 i 741 cells slots := by
  obtain ⟨hx, hb, hr, hml, hown, hts, hX, hbl, hlocks, hgv⟩ := id C0
  have hown : s.vm.findClass RL = some m.cls := hown
  have hA : ∀ q : Nat, s.heap.size ≤ q → A q := fun q h => by rw [hAe]; exact h
  have hbA : ¬ A b := by rw [hAe]; exact Nat.not_le.mpr hbl
  intro v LX LM fo H locs ls hI hJ hP hD hS hl
  refine lv_aload_n hx hb dL_law_741 rfl (lv_at hl 3 rfl) ?_
  obtain ⟨q1, hh1⟩ := hI.head
  refine lc_i (U := LM) (C := LX) (V := [(o0, .inl (ak 1, 1, .inr (.inl fo)))]) hP hD hS hA (va_runV (As := []) (rest := []) ⟨hx, hb, hml, hown, hts⟩ (x_never l D ak ad _ x0 v LX  hI) (cwV 0 hts hG_X7_never rfl rfl rfl hv_X7_never ⟨Nat.le_of_ble_eq_true rfl, Nat.le_of_ble_eq_true rfl⟩) (lc_preV (U := LM) (C := LX) (V := [(o0, .inl (ak 1, 1, .inr (.inl fo)))]) (As := []) hE hT hP hD hS hA 0 6 rfl rfl hh1) rfl rfl hl.1 rfl (lv_room (Nat.le_of_ble_eq_true rfl)) dL_law_742 ⟨by omega, by omega⟩) (fun r1 LX H locs hR hP hD hS => ?_)
  obtain ⟨er1, hI⟩ := hR
  refine lv_pop hx hb dL_law_745 rfl ?_
  refine lv_aload_n hx hb dL_law_746 rfl (lv_at hl 2 rfl) ?_
  obtain ⟨q2, hh2⟩ := hJ.head
  refine lc_i (U := []) (C := LM) (V := LX ++ [(o0, .inl (ak 1, 1, .inr (.inl fo)))]) hP hD hS hA (va_runV (As := []) (rest := []) ⟨hx, hb, hml, hown, hts⟩ (m_never l D ak ad _ m0 v LM  hJ) (cwV 0 hts hG_X8_never rfl rfl rfl hv_X8_never ⟨Nat.le_of_ble_eq_true rfl, Nat.le_of_ble_eq_true rfl⟩) (lc_preV (U := []) (C := LM) (V := LX ++ [(o0, .inl (ak 1, 1, .inr (.inl fo)))]) (As := []) hE hT hP hD hS hA 0 7 rfl rfl hh2) rfl rfl hl.1 rfl (lv_room (Nat.le_of_ble_eq_true rfl)) dL_law_747 ⟨by omega, by omega⟩) (fun r2 LM H locs hR hP hD hS => ?_)
  obtain ⟨er2, hJ⟩ := hR
  have hP : va_P D vwCl (LM ++ (LX ++ [(o0, .inl (ak 1, 1, .inr (.inl fo)))])) H := hP
  have hD : va_D A (LM ++ (LX ++ [(o0, .inl (ak 1, 1, .inr (.inl fo)))])) := hD
  refine lv_pop hx hb dL_law_750 rfl ?_
  refine lv_goto (tgt := 1019) hx hb dL_law_751 (by decide) ?_
  refine W.widen (k := cells + 15) (n := slots + 1133) (by omega) (by omega) ?_
  exact kk _ LX LM fo H locs ls hI hJ hP hD hS (lv_sub hl [0, 1, 2, 3, 4] rfl)
set_option maxHeartbeats 4000000 in
set_option maxRecDepth 100000 in
theorem lk_18 {p : Program} {e : Env} {s : State} {m : MethodId} {below : List Frame} {meth : Method} {c : Code} (l : Launch) {b L : Nat} {xs : Nat → Int32} (C0 : lw_At p s m meth c b L xs) {A : Nat → Prop} (hAe : A = fun q => s.heap.size ≤ q) {D : va_G} {ak : Nat → ClassId} {ad : Nat → Nat} (hl0 : l.stackTraces = false) (hE : EV D ak s) (hT : ST D ak ad A s s.heap) (hXE : XE A s s.heap) {o0 m0 x0 : Nat} {i : Int32} {k cells slots : Nat} (hi : i = nI k) (hk : k + 7 ≤ L) (hL : L ≤ 3584) (hc : cells + 15 ≤ room_1.cells) (hs : slots + 1133 ≤ room_1.slots) (kk : LGo p l e s m b below meth c D ak ad A o0 m0 x0 i 1019 (cells + 15) (slots + 1133)) : LGo p l e s m b below meth c D ak ad A o0 m0 x0 i 754 cells slots := by
  obtain ⟨hx, hb, hr, hml, hown, hts, hX, hbl, hlocks, hgv⟩ := id C0
  have hown : s.vm.findClass RL = some m.cls := hown
  have hA : ∀ q : Nat, s.heap.size ≤ q → A q := fun q h => by rw [hAe]; exact h
  have hbA : ¬ A b := by rw [hAe]; exact Nat.not_le.mpr hbl
  intro v LX LM fo H locs ls hI hJ hP hD hS hl
  refine lv_aload_n hx hb dL_law_754 rfl (lv_at hl 3 rfl) ?_
  refine lv_aload_n hx hb dL_law_755 rfl (lv_at hl 4 rfl) ?_
  refine lv_iload hx hb dL_law_756 (lv_at hl 0 rfl) ?_
  refine lv_iconst (v := 1) hx hb dL_law_758 (by decide) ?_
  refine lv_iadd hx hb dL_law_759 ?_
  refine va_sld hx hb hX hbl hbA hS (lk_in (d := 1) hi hk hL (by decide)) dL_law_760 ?_
  refine lv_topi (fun a1 ea1 => ?_)
  obtain ⟨q1, hh1⟩ := hI.head
  refine lc_i (U := LM) (C := LX) (V := [(o0, .inl (ak 1, 1, .inr (.inl fo)))]) hP hD hS hA (va_runV (As := [.int a1]) (rest := []) ⟨hx, hb, hml, hown, hts⟩ (x_first l D ak ad _ x0 v LX a1 hI) (cwV 1 hts hG_X7_first rfl rfl rfl hv_X7_first ⟨Nat.le_of_ble_eq_true rfl, Nat.le_of_ble_eq_true rfl⟩) (lc_preV (U := LM) (C := LX) (V := [(o0, .inl (ak 1, 1, .inr (.inl fo)))]) (As := [.int a1]) hE hT hP hD hS hA 0 6 rfl rfl hh1) rfl rfl hl.1 rfl (lv_room (Nat.le_of_ble_eq_true rfl)) dL_law_761 ⟨by omega, by omega⟩) (fun r1 LX H locs hR hP hD hS => ?_)
  obtain ⟨er1, hI⟩ := hR
  refine lv_pop hx hb dL_law_764 rfl ?_
  refine lv_aload_n hx hb dL_law_765 rfl (lv_at hl 2 rfl) ?_
  refine lv_aload_n hx hb dL_law_766 rfl (lv_at hl 4 rfl) ?_
  refine lv_iload hx hb dL_law_767 (lv_at hl 0 rfl) ?_
  refine lv_iconst (v := 1) hx hb dL_law_769 (by decide) ?_
  refine lv_iadd hx hb dL_law_770 ?_
  refine va_sld hx hb hX hbl hbA hS (lk_in (d := 1) hi hk hL (by decide)) dL_law_771 ?_
  refine W.eq (g2 := F0 m 772 ls (.int a1 :: .ref m0 :: [])) (by rw [ea1]) ?_
  obtain ⟨q2, hh2⟩ := hJ.head
  refine lc_i (U := []) (C := LM) (V := LX ++ [(o0, .inl (ak 1, 1, .inr (.inl fo)))]) hP hD hS hA (va_runV (As := [.int a1]) (rest := []) ⟨hx, hb, hml, hown, hts⟩ (m_first l D ak ad _ m0 v LM a1 hJ) (cwV 1 hts hG_X8_first rfl rfl rfl hv_X8_first ⟨Nat.le_of_ble_eq_true rfl, Nat.le_of_ble_eq_true rfl⟩) (lc_preV (U := []) (C := LM) (V := LX ++ [(o0, .inl (ak 1, 1, .inr (.inl fo)))]) (As := [.int a1]) hE hT hP hD hS hA 0 7 rfl rfl hh2) rfl rfl hl.1 rfl (lv_room (Nat.le_of_ble_eq_true rfl)) dL_law_772 ⟨by omega, by omega⟩) (fun r2 LM H locs hR hP hD hS => ?_)
  obtain ⟨er2, hJ⟩ := hR
  have hP : va_P D vwCl (LM ++ (LX ++ [(o0, .inl (ak 1, 1, .inr (.inl fo)))])) H := hP
  have hD : va_D A (LM ++ (LX ++ [(o0, .inl (ak 1, 1, .inr (.inl fo)))])) := hD
  refine lv_pop hx hb dL_law_775 rfl ?_
  refine lv_goto (tgt := 1019) hx hb dL_law_776 (by decide) ?_
  refine W.widen (k := cells + 15) (n := slots + 1133) (by omega) (by omega) ?_
  exact kk _ LX LM fo H locs ls hI hJ hP hD hS (lv_sub hl [0, 1, 2, 3, 4] rfl)
set_option maxHeartbeats 4000000 in
set_option maxRecDepth 100000 in
theorem lk_19 {p : Program} {e : Env} {s : State} {m : MethodId} {below : List Frame} {meth : Method} {c : Code} (l : Launch) {b L : Nat} {xs : Nat → Int32} (C0 : lw_At p s m meth c b L xs) {A : Nat → Prop} (hAe : A = fun q => s.heap.size ≤ q) {D : va_G} {ak : Nat → ClassId} {ad : Nat → Nat} (hl0 : l.stackTraces = false) (hE : EV D ak s) (hT : ST D ak ad A s s.heap) (hXE : XE A s s.heap) {o0 m0 x0 : Nat} {i : Int32} {k cells slots : Nat} (hi : i = nI k) (hk : k + 7 ≤ L) (hL : L ≤ 3584) (hc : cells + 15 ≤ room_1.cells) (hs : slots + 1133 ≤ room_1.slots) (kk : LGo p l e s m b below meth c D ak ad A o0 m0 x0 i 1019 (cells + 15) (slots + 1133)) : LGo p l e s m b below meth c D ak ad A o0 m0 x0 i 779 cells slots := by
  obtain ⟨hx, hb, hr, hml, hown, hts, hX, hbl, hlocks, hgv⟩ := id C0
  have hown : s.vm.findClass RL = some m.cls := hown
  have hA : ∀ q : Nat, s.heap.size ≤ q → A q := fun q h => by rw [hAe]; exact h
  have hbA : ¬ A b := by rw [hAe]; exact Nat.not_le.mpr hbl
  intro v LX LM fo H locs ls hI hJ hP hD hS hl
  refine lv_aload_n hx hb dL_law_779 rfl (lv_at hl 3 rfl) ?_
  obtain ⟨q1, hh1⟩ := hI.head
  refine lc_i (U := LM) (C := LX) (V := [(o0, .inl (ak 1, 1, .inr (.inl fo)))]) hP hD hS hA (va_runV (As := []) (rest := []) ⟨hx, hb, hml, hown, hts⟩ (x_apart l D ak ad _ x0 v LX  hI) (cwV 0 hts hG_X7_apart rfl rfl rfl hv_X7_apart ⟨Nat.le_of_ble_eq_true rfl, Nat.le_of_ble_eq_true rfl⟩) (lc_preV (U := LM) (C := LX) (V := [(o0, .inl (ak 1, 1, .inr (.inl fo)))]) (As := []) hE hT hP hD hS hA 0 6 rfl rfl hh1) rfl rfl hl.1 rfl (lv_room (Nat.le_of_ble_eq_true rfl)) dL_law_780 ⟨by omega, by omega⟩) (fun r1 LX H locs hR hP hD hS => ?_)
  obtain ⟨er1, hI⟩ := hR
  refine lv_pop hx hb dL_law_783 rfl ?_
  refine lv_aload_n hx hb dL_law_784 rfl (lv_at hl 2 rfl) ?_
  obtain ⟨q2, hh2⟩ := hJ.head
  refine lc_i (U := []) (C := LM) (V := LX ++ [(o0, .inl (ak 1, 1, .inr (.inl fo)))]) hP hD hS hA (va_runV (As := []) (rest := []) ⟨hx, hb, hml, hown, hts⟩ (m_apart l D ak ad _ m0 v LM  hJ) (cwV 0 hts hG_X8_apart rfl rfl rfl hv_X8_apart ⟨Nat.le_of_ble_eq_true rfl, Nat.le_of_ble_eq_true rfl⟩) (lc_preV (U := []) (C := LM) (V := LX ++ [(o0, .inl (ak 1, 1, .inr (.inl fo)))]) (As := []) hE hT hP hD hS hA 0 7 rfl rfl hh2) rfl rfl hl.1 rfl (lv_room (Nat.le_of_ble_eq_true rfl)) dL_law_785 ⟨by omega, by omega⟩) (fun r2 LM H locs hR hP hD hS => ?_)
  obtain ⟨er2, hJ⟩ := hR
  have hP : va_P D vwCl (LM ++ (LX ++ [(o0, .inl (ak 1, 1, .inr (.inl fo)))])) H := hP
  have hD : va_D A (LM ++ (LX ++ [(o0, .inl (ak 1, 1, .inr (.inl fo)))])) := hD
  refine lv_pop hx hb dL_law_788 rfl ?_
  refine lv_goto (tgt := 1019) hx hb dL_law_789 (by decide) ?_
  refine W.widen (k := cells + 15) (n := slots + 1133) (by omega) (by omega) ?_
  exact kk _ LX LM fo H locs ls hI hJ hP hD hS (lv_sub hl [0, 1, 2, 3, 4] rfl)
set_option maxHeartbeats 4000000 in
set_option maxRecDepth 100000 in
theorem lk_20 {p : Program} {e : Env} {s : State} {m : MethodId} {below : List Frame} {meth : Method} {c : Code} (l : Launch) {b L : Nat} {xs : Nat → Int32} (C0 : lw_At p s m meth c b L xs) {A : Nat → Prop} (hAe : A = fun q => s.heap.size ≤ q) {D : va_G} {ak : Nat → ClassId} {ad : Nat → Nat} (hl0 : l.stackTraces = false) (hE : EV D ak s) (hT : ST D ak ad A s s.heap) (hXE : XE A s s.heap) {o0 m0 x0 : Nat} {i : Int32} {k cells slots : Nat} (hi : i = nI k) (hk : k + 7 ≤ L) (hL : L ≤ 3584) (hc : cells + 15 ≤ room_1.cells) (hs : slots + 1133 ≤ room_1.slots) (kk : LGo p l e s m b below meth c D ak ad A o0 m0 x0 i 1019 (cells + 15) (slots + 1133)) : LGo p l e s m b below meth c D ak ad A o0 m0 x0 i 792 cells slots := by
  obtain ⟨hx, hb, hr, hml, hown, hts, hX, hbl, hlocks, hgv⟩ := id C0
  have hown : s.vm.findClass RL = some m.cls := hown
  have hA : ∀ q : Nat, s.heap.size ≤ q → A q := fun q h => by rw [hAe]; exact h
  have hbA : ¬ A b := by rw [hAe]; exact Nat.not_le.mpr hbl
  intro v LX LM fo H locs ls hI hJ hP hD hS hl
  refine lv_aload_n hx hb dL_law_792 rfl (lv_at hl 3 rfl) ?_
  refine lv_aload_n hx hb dL_law_793 rfl (lv_at hl 4 rfl) ?_
  refine lv_iload hx hb dL_law_794 (lv_at hl 0 rfl) ?_
  refine lv_iconst (v := 1) hx hb dL_law_796 (by decide) ?_
  refine lv_iadd hx hb dL_law_797 ?_
  refine va_sld hx hb hX hbl hbA hS (lk_in (d := 1) hi hk hL (by decide)) dL_law_798 ?_
  refine lv_topi (fun a1 ea1 => ?_)
  obtain ⟨q1, hh1⟩ := hI.head
  refine lc_i (U := LM) (C := LX) (V := [(o0, .inl (ak 1, 1, .inr (.inl fo)))]) hP hD hS hA (va_runV (As := [.int a1]) (rest := []) ⟨hx, hb, hml, hown, hts⟩ (x_rounds l D ak ad _ x0 v LX a1 hI) (cwV 1 hts hG_X7_rounds rfl rfl rfl hv_X7_rounds ⟨Nat.le_of_ble_eq_true rfl, Nat.le_of_ble_eq_true rfl⟩) (lc_preV (U := LM) (C := LX) (V := [(o0, .inl (ak 1, 1, .inr (.inl fo)))]) (As := [.int a1]) hE hT hP hD hS hA 0 6 rfl rfl hh1) rfl rfl hl.1 rfl (lv_room (Nat.le_of_ble_eq_true rfl)) dL_law_799 ⟨by omega, by omega⟩) (fun r1 LX H locs hR hP hD hS => ?_)
  obtain ⟨er1, hI⟩ := hR
  refine lv_pop hx hb dL_law_802 rfl ?_
  refine lv_aload_n hx hb dL_law_803 rfl (lv_at hl 2 rfl) ?_
  refine lv_aload_n hx hb dL_law_804 rfl (lv_at hl 4 rfl) ?_
  refine lv_iload hx hb dL_law_805 (lv_at hl 0 rfl) ?_
  refine lv_iconst (v := 1) hx hb dL_law_807 (by decide) ?_
  refine lv_iadd hx hb dL_law_808 ?_
  refine va_sld hx hb hX hbl hbA hS (lk_in (d := 1) hi hk hL (by decide)) dL_law_809 ?_
  refine W.eq (g2 := F0 m 810 ls (.int a1 :: .ref m0 :: [])) (by rw [ea1]) ?_
  obtain ⟨q2, hh2⟩ := hJ.head
  refine lc_i (U := []) (C := LM) (V := LX ++ [(o0, .inl (ak 1, 1, .inr (.inl fo)))]) hP hD hS hA (va_runV (As := [.int a1]) (rest := []) ⟨hx, hb, hml, hown, hts⟩ (m_rounds l D ak ad _ m0 v LM a1 hJ) (cwV 1 hts hG_X8_rounds rfl rfl rfl hv_X8_rounds ⟨Nat.le_of_ble_eq_true rfl, Nat.le_of_ble_eq_true rfl⟩) (lc_preV (U := []) (C := LM) (V := LX ++ [(o0, .inl (ak 1, 1, .inr (.inl fo)))]) (As := [.int a1]) hE hT hP hD hS hA 0 7 rfl rfl hh2) rfl rfl hl.1 rfl (lv_room (Nat.le_of_ble_eq_true rfl)) dL_law_810 ⟨by omega, by omega⟩) (fun r2 LM H locs hR hP hD hS => ?_)
  obtain ⟨er2, hJ⟩ := hR
  have hP : va_P D vwCl (LM ++ (LX ++ [(o0, .inl (ak 1, 1, .inr (.inl fo)))])) H := hP
  have hD : va_D A (LM ++ (LX ++ [(o0, .inl (ak 1, 1, .inr (.inl fo)))])) := hD
  refine lv_pop hx hb dL_law_813 rfl ?_
  refine lv_goto (tgt := 1019) hx hb dL_law_814 (by decide) ?_
  refine W.widen (k := cells + 15) (n := slots + 1133) (by omega) (by omega) ?_
  exact kk _ LX LM fo H locs ls hI hJ hP hD hS (lv_sub hl [0, 1, 2, 3, 4] rfl)
set_option maxHeartbeats 4000000 in
set_option maxRecDepth 100000 in
theorem lk_21 {p : Program} {e : Env} {s : State} {m : MethodId} {below : List Frame} {meth : Method} {c : Code} (l : Launch) {b L : Nat} {xs : Nat → Int32} (C0 : lw_At p s m meth c b L xs) {A : Nat → Prop} (hAe : A = fun q => s.heap.size ≤ q) {D : va_G} {ak : Nat → ClassId} {ad : Nat → Nat} (hl0 : l.stackTraces = false) (hE : EV D ak s) (hT : ST D ak ad A s s.heap) (hXE : XE A s s.heap) {o0 m0 x0 : Nat} {i : Int32} {k cells slots : Nat} (hi : i = nI k) (hk : k + 7 ≤ L) (hL : L ≤ 3584) (hc : cells + 15 ≤ room_1.cells) (hs : slots + 1133 ≤ room_1.slots) (kk : LGo p l e s m b below meth c D ak ad A o0 m0 x0 i 1019 (cells + 15) (slots + 1133)) : LGo p l e s m b below meth c D ak ad A o0 m0 x0 i 817 cells slots := by
  obtain ⟨hx, hb, hr, hml, hown, hts, hX, hbl, hlocks, hgv⟩ := id C0
  have hown : s.vm.findClass RL = some m.cls := hown
  have hA : ∀ q : Nat, s.heap.size ≤ q → A q := fun q h => by rw [hAe]; exact h
  have hbA : ¬ A b := by rw [hAe]; exact Nat.not_le.mpr hbl
  intro v LX LM fo H locs ls hI hJ hP hD hS hl
  refine lv_aload_n hx hb dL_law_817 rfl (lv_at hl 3 rfl) ?_
  refine lv_aload_n hx hb dL_law_818 rfl (lv_at hl 4 rfl) ?_
  refine lv_iload hx hb dL_law_819 (lv_at hl 0 rfl) ?_
  refine lv_iconst (v := 1) hx hb dL_law_821 (by decide) ?_
  refine lv_iadd hx hb dL_law_822 ?_
  refine va_sld hx hb hX hbl hbA hS (lk_in (d := 1) hi hk hL (by decide)) dL_law_823 ?_
  refine lv_topi (fun a1 ea1 => ?_)
  obtain ⟨q1, hh1⟩ := hI.head
  refine lc_i (U := LM) (C := LX) (V := [(o0, .inl (ak 1, 1, .inr (.inl fo)))]) hP hD hS hA (va_runV (As := [.int a1]) (rest := []) ⟨hx, hb, hml, hown, hts⟩ (x_lasting l D ak ad _ x0 v LX a1 hI) (cwV 1 hts hG_X7_lasting rfl rfl rfl hv_X7_lasting ⟨Nat.le_of_ble_eq_true rfl, Nat.le_of_ble_eq_true rfl⟩) (lc_preV (U := LM) (C := LX) (V := [(o0, .inl (ak 1, 1, .inr (.inl fo)))]) (As := [.int a1]) hE hT hP hD hS hA 0 6 rfl rfl hh1) rfl rfl hl.1 rfl (lv_room (Nat.le_of_ble_eq_true rfl)) dL_law_824 ⟨by omega, by omega⟩) (fun r1 LX H locs hR hP hD hS => ?_)
  obtain ⟨er1, hI⟩ := hR
  refine lv_pop hx hb dL_law_827 rfl ?_
  refine lv_aload_n hx hb dL_law_828 rfl (lv_at hl 2 rfl) ?_
  refine lv_aload_n hx hb dL_law_829 rfl (lv_at hl 4 rfl) ?_
  refine lv_iload hx hb dL_law_830 (lv_at hl 0 rfl) ?_
  refine lv_iconst (v := 1) hx hb dL_law_832 (by decide) ?_
  refine lv_iadd hx hb dL_law_833 ?_
  refine va_sld hx hb hX hbl hbA hS (lk_in (d := 1) hi hk hL (by decide)) dL_law_834 ?_
  refine W.eq (g2 := F0 m 835 ls (.int a1 :: .ref m0 :: [])) (by rw [ea1]) ?_
  obtain ⟨q2, hh2⟩ := hJ.head
  refine lc_i (U := []) (C := LM) (V := LX ++ [(o0, .inl (ak 1, 1, .inr (.inl fo)))]) hP hD hS hA (va_runV (As := [.int a1]) (rest := []) ⟨hx, hb, hml, hown, hts⟩ (m_lasting l D ak ad _ m0 v LM a1 hJ) (cwV 1 hts hG_X8_lasting rfl rfl rfl hv_X8_lasting ⟨Nat.le_of_ble_eq_true rfl, Nat.le_of_ble_eq_true rfl⟩) (lc_preV (U := []) (C := LM) (V := LX ++ [(o0, .inl (ak 1, 1, .inr (.inl fo)))]) (As := [.int a1]) hE hT hP hD hS hA 0 7 rfl rfl hh2) rfl rfl hl.1 rfl (lv_room (Nat.le_of_ble_eq_true rfl)) dL_law_835 ⟨by omega, by omega⟩) (fun r2 LM H locs hR hP hD hS => ?_)
  obtain ⟨er2, hJ⟩ := hR
  have hP : va_P D vwCl (LM ++ (LX ++ [(o0, .inl (ak 1, 1, .inr (.inl fo)))])) H := hP
  have hD : va_D A (LM ++ (LX ++ [(o0, .inl (ak 1, 1, .inr (.inl fo)))])) := hD
  refine lv_pop hx hb dL_law_838 rfl ?_
  refine lv_goto (tgt := 1019) hx hb dL_law_839 (by decide) ?_
  refine W.widen (k := cells + 15) (n := slots + 1133) (by omega) (by omega) ?_
  exact kk _ LX LM fo H locs ls hI hJ hP hD hS (lv_sub hl [0, 1, 2, 3, 4] rfl)
set_option maxHeartbeats 4000000 in
set_option maxRecDepth 100000 in
theorem lk_22 {p : Program} {e : Env} {s : State} {m : MethodId} {below : List Frame} {meth : Method} {c : Code} (l : Launch) {b L : Nat} {xs : Nat → Int32} (C0 : lw_At p s m meth c b L xs) {A : Nat → Prop} (hAe : A = fun q => s.heap.size ≤ q) {D : va_G} {ak : Nat → ClassId} {ad : Nat → Nat} (hl0 : l.stackTraces = false) (hE : EV D ak s) (hT : ST D ak ad A s s.heap) (hXE : XE A s s.heap) {o0 m0 x0 : Nat} {i : Int32} {k cells slots : Nat} (hi : i = nI k) (hk : k + 7 ≤ L) (hL : L ≤ 3584) (hc : cells + 15 ≤ room_1.cells) (hs : slots + 1133 ≤ room_1.slots) (kk : LGo p l e s m b below meth c D ak ad A o0 m0 x0 i 1019 (cells + 15) (slots + 1133)) : LGo p l e s m b below meth c D ak ad A o0 m0 x0 i 842 cells slots := by
  obtain ⟨hx, hb, hr, hml, hown, hts, hX, hbl, hlocks, hgv⟩ := id C0
  have hown : s.vm.findClass RL = some m.cls := hown
  have hA : ∀ q : Nat, s.heap.size ≤ q → A q := fun q h => by rw [hAe]; exact h
  have hbA : ¬ A b := by rw [hAe]; exact Nat.not_le.mpr hbl
  intro v LX LM fo H locs ls hI hJ hP hD hS hl
  refine lv_aload_n hx hb dL_law_842 rfl (lv_at hl 3 rfl) ?_
  refine lv_aload_n hx hb dL_law_843 rfl (lv_at hl 4 rfl) ?_
  refine lv_iload hx hb dL_law_844 (lv_at hl 0 rfl) ?_
  refine lv_iconst (v := 1) hx hb dL_law_846 (by decide) ?_
  refine lv_iadd hx hb dL_law_847 ?_
  refine va_sld hx hb hX hbl hbA hS (lk_in (d := 1) hi hk hL (by decide)) dL_law_848 ?_
  refine lv_topi (fun a1 ea1 => ?_)
  refine lv_aload_n hx hb dL_law_849 rfl (lv_at hl 4 rfl) ?_
  refine lv_iload hx hb dL_law_850 (lv_at hl 0 rfl) ?_
  refine lv_iconst (v := 2) hx hb dL_law_852 (by decide) ?_
  refine lv_iadd hx hb dL_law_853 ?_
  refine va_sld hx hb hX hbl hbA hS (lk_in (d := 2) hi hk hL (by decide)) dL_law_854 ?_
  refine lv_topi (fun a2 ea2 => ?_)
  refine lv_aload_n hx hb dL_law_855 rfl (lv_at hl 4 rfl) ?_
  refine lv_iload hx hb dL_law_856 (lv_at hl 0 rfl) ?_
  refine lv_iconst (v := 3) hx hb dL_law_858 (by decide) ?_
  refine lv_iadd hx hb dL_law_859 ?_
  refine va_sld hx hb hX hbl hbA hS (lk_in (d := 3) hi hk hL (by decide)) dL_law_860 ?_
  refine lv_topi (fun a3 ea3 => ?_)
  obtain ⟨q1, hh1⟩ := hI.head
  refine lc_i (U := LM) (C := LX) (V := [(o0, .inl (ak 1, 1, .inr (.inl fo)))]) hP hD hS hA (va_runV (As := [.int a1, .int a2, .int a3]) (rest := []) ⟨hx, hb, hml, hown, hts⟩ (x_lasts l D ak ad _ x0 v LX a1 a2 a3 hI) (cwV 3 hts hG_X7_lasts rfl rfl rfl hv_X7_lasts ⟨Nat.le_of_ble_eq_true rfl, Nat.le_of_ble_eq_true rfl⟩) (lc_preV (U := LM) (C := LX) (V := [(o0, .inl (ak 1, 1, .inr (.inl fo)))]) (As := [.int a1, .int a2, .int a3]) hE hT hP hD hS hA 0 6 rfl rfl hh1) rfl rfl hl.1 rfl (lv_room (Nat.le_of_ble_eq_true rfl)) dL_law_861 ⟨by omega, by omega⟩) (fun r1 LX H locs hR hP hD hS => ?_)
  obtain ⟨er1, hI⟩ := hR
  refine lv_aload_n hx hb dL_law_864 rfl (lv_at hl 2 rfl) ?_
  refine lv_aload_n hx hb dL_law_865 rfl (lv_at hl 4 rfl) ?_
  refine lv_iload hx hb dL_law_866 (lv_at hl 0 rfl) ?_
  refine lv_iconst (v := 1) hx hb dL_law_868 (by decide) ?_
  refine lv_iadd hx hb dL_law_869 ?_
  refine va_sld hx hb hX hbl hbA hS (lk_in (d := 1) hi hk hL (by decide)) dL_law_870 ?_
  refine W.eq (g2 := F0 m 871 ls (.int a1 :: .ref m0 :: .int r1 :: [])) (by rw [ea1]) ?_
  refine lv_aload_n hx hb dL_law_871 rfl (lv_at hl 4 rfl) ?_
  refine lv_iload hx hb dL_law_872 (lv_at hl 0 rfl) ?_
  refine lv_iconst (v := 2) hx hb dL_law_874 (by decide) ?_
  refine lv_iadd hx hb dL_law_875 ?_
  refine va_sld hx hb hX hbl hbA hS (lk_in (d := 2) hi hk hL (by decide)) dL_law_876 ?_
  refine W.eq (g2 := F0 m 877 ls (.int a2 :: .int a1 :: .ref m0 :: .int r1 :: [])) (by rw [ea2]) ?_
  refine lv_aload_n hx hb dL_law_877 rfl (lv_at hl 4 rfl) ?_
  refine lv_iload hx hb dL_law_878 (lv_at hl 0 rfl) ?_
  refine lv_iconst (v := 3) hx hb dL_law_880 (by decide) ?_
  refine lv_iadd hx hb dL_law_881 ?_
  refine va_sld hx hb hX hbl hbA hS (lk_in (d := 3) hi hk hL (by decide)) dL_law_882 ?_
  refine W.eq (g2 := F0 m 883 ls (.int a3 :: .int a2 :: .int a1 :: .ref m0 :: .int r1 :: [])) (by rw [ea3]) ?_
  obtain ⟨q2, hh2⟩ := hJ.head
  refine lc_i (U := []) (C := LM) (V := LX ++ [(o0, .inl (ak 1, 1, .inr (.inl fo)))]) hP hD hS hA (va_runV (As := [.int a1, .int a2, .int a3]) (rest := [.int r1]) ⟨hx, hb, hml, hown, hts⟩ (m_lasts l D ak ad _ m0 v LM a1 a2 a3 hJ) (cwV 3 hts hG_X8_lasts rfl rfl rfl hv_X8_lasts ⟨Nat.le_of_ble_eq_true rfl, Nat.le_of_ble_eq_true rfl⟩) (lc_preV (U := []) (C := LM) (V := LX ++ [(o0, .inl (ak 1, 1, .inr (.inl fo)))]) (As := [.int a1, .int a2, .int a3]) hE hT hP hD hS hA 0 7 rfl rfl hh2) rfl rfl hl.1 rfl (lv_room (Nat.le_of_ble_eq_true rfl)) dL_law_883 ⟨by omega, by omega⟩) (fun r2 LM H locs hR hP hD hS => ?_)
  obtain ⟨er2, hJ⟩ := hR
  have hP : va_P D vwCl (LM ++ (LX ++ [(o0, .inl (ak 1, 1, .inr (.inl fo)))])) H := hP
  have hD : va_D A (LM ++ (LX ++ [(o0, .inl (ak 1, 1, .inr (.inl fo)))])) := hD
  refine lv_icmp_eq (tgt := 1019) hx hb dL_law_886 (by decide) (fun c_ => ?_) (fun c_ => absurd (er1.trans er2.symm) c_)
  refine W.widen (k := cells + 15) (n := slots + 1133) (by omega) (by omega) ?_
  exact kk _ LX LM fo H locs ls hI hJ hP hD hS (lv_sub hl [0, 1, 2, 3, 4] rfl)
set_option maxHeartbeats 4000000 in
set_option maxRecDepth 100000 in
theorem lk_23 {p : Program} {e : Env} {s : State} {m : MethodId} {below : List Frame} {meth : Method} {c : Code} (l : Launch) {b L : Nat} {xs : Nat → Int32} (C0 : lw_At p s m meth c b L xs) {A : Nat → Prop} (hAe : A = fun q => s.heap.size ≤ q) {D : va_G} {ak : Nat → ClassId} {ad : Nat → Nat} (hl0 : l.stackTraces = false) (hE : EV D ak s) (hT : ST D ak ad A s s.heap) (hXE : XE A s s.heap) {o0 m0 x0 : Nat} {i : Int32} {k cells slots : Nat} (hi : i = nI k) (hk : k + 7 ≤ L) (hL : L ≤ 3584) (hc : cells + 15 ≤ room_1.cells) (hs : slots + 1133 ≤ room_1.slots) (kk : LGo p l e s m b below meth c D ak ad A o0 m0 x0 i 1019 (cells + 15) (slots + 1133)) : LGo p l e s m b below meth c D ak ad A o0 m0 x0 i 891 cells slots := by
  obtain ⟨hx, hb, hr, hml, hown, hts, hX, hbl, hlocks, hgv⟩ := id C0
  have hown : s.vm.findClass RL = some m.cls := hown
  have hA : ∀ q : Nat, s.heap.size ≤ q → A q := fun q h => by rw [hAe]; exact h
  have hbA : ¬ A b := by rw [hAe]; exact Nat.not_le.mpr hbl
  intro v LX LM fo H locs ls hI hJ hP hD hS hl
  refine lv_aload_n hx hb dL_law_891 rfl (lv_at hl 3 rfl) ?_
  refine lv_aload_n hx hb dL_law_892 rfl (lv_at hl 4 rfl) ?_
  refine lv_iload hx hb dL_law_893 (lv_at hl 0 rfl) ?_
  refine lv_iconst (v := 1) hx hb dL_law_895 (by decide) ?_
  refine lv_iadd hx hb dL_law_896 ?_
  refine va_sld hx hb hX hbl hbA hS (lk_in (d := 1) hi hk hL (by decide)) dL_law_897 ?_
  refine lv_topi (fun a1 ea1 => ?_)
  obtain ⟨q1, hh1⟩ := hI.head
  refine lc_i (U := LM) (C := LX) (V := [(o0, .inl (ak 1, 1, .inr (.inl fo)))]) hP hD hS hA (va_runV (As := [.int a1]) (rest := []) ⟨hx, hb, hml, hown, hts⟩ (x_better l D ak ad _ x0 v LX a1 hI) (cwV 1 hts hG_X7_better rfl rfl rfl hv_X7_better ⟨Nat.le_of_ble_eq_true rfl, Nat.le_of_ble_eq_true rfl⟩) (lc_preV (U := LM) (C := LX) (V := [(o0, .inl (ak 1, 1, .inr (.inl fo)))]) (As := [.int a1]) hE hT hP hD hS hA 0 6 rfl rfl hh1) rfl rfl hl.1 rfl (lv_room (Nat.le_of_ble_eq_true rfl)) dL_law_898 ⟨by omega, by omega⟩) (fun r1 LX H locs hR hP hD hS => ?_)
  have hI := hR
  refine lv_pop hx hb dL_law_901 rfl ?_
  refine lv_aload_n hx hb dL_law_902 rfl (lv_at hl 2 rfl) ?_
  refine lv_aload_n hx hb dL_law_903 rfl (lv_at hl 4 rfl) ?_
  refine lv_iload hx hb dL_law_904 (lv_at hl 0 rfl) ?_
  refine lv_iconst (v := 1) hx hb dL_law_906 (by decide) ?_
  refine lv_iadd hx hb dL_law_907 ?_
  refine va_sld hx hb hX hbl hbA hS (lk_in (d := 1) hi hk hL (by decide)) dL_law_908 ?_
  refine W.eq (g2 := F0 m 909 ls (.int a1 :: .ref m0 :: [])) (by rw [ea1]) ?_
  obtain ⟨q2, hh2⟩ := hJ.head
  refine lc_i (U := []) (C := LM) (V := LX ++ [(o0, .inl (ak 1, 1, .inr (.inl fo)))]) hP hD hS hA (va_runV (As := [.int a1]) (rest := []) ⟨hx, hb, hml, hown, hts⟩ (m_better l D ak ad _ m0 v LM a1 hJ) (cwV 1 hts hG_X8_better rfl rfl rfl hv_X8_better ⟨Nat.le_of_ble_eq_true rfl, Nat.le_of_ble_eq_true rfl⟩) (lc_preV (U := []) (C := LM) (V := LX ++ [(o0, .inl (ak 1, 1, .inr (.inl fo)))]) (As := [.int a1]) hE hT hP hD hS hA 0 7 rfl rfl hh2) rfl rfl hl.1 rfl (lv_room (Nat.le_of_ble_eq_true rfl)) dL_law_909 ⟨by omega, by omega⟩) (fun r2 LM H locs hR hP hD hS => ?_)
  have hJ := hR
  have hP : va_P D vwCl (LM ++ (LX ++ [(o0, .inl (ak 1, 1, .inr (.inl fo)))])) H := hP
  have hD : va_D A (LM ++ (LX ++ [(o0, .inl (ak 1, 1, .inr (.inl fo)))])) := hD
  refine lv_pop hx hb dL_law_912 rfl ?_
  refine lv_goto (tgt := 1019) hx hb dL_law_913 (by decide) ?_
  refine W.widen (k := cells + 15) (n := slots + 1133) (by omega) (by omega) ?_
  exact kk _ LX LM fo H locs ls hI hJ hP hD hS (lv_sub hl [0, 1, 2, 3, 4] rfl)
set_option maxHeartbeats 4000000 in
set_option maxRecDepth 100000 in
theorem lk_26 {p : Program} {e : Env} {s : State} {m : MethodId} {below : List Frame} {meth : Method} {c : Code} (l : Launch) {b L : Nat} {xs : Nat → Int32} (C0 : lw_At p s m meth c b L xs) {A : Nat → Prop} (hAe : A = fun q => s.heap.size ≤ q) {D : va_G} {ak : Nat → ClassId} {ad : Nat → Nat} (hl0 : l.stackTraces = false) (hE : EV D ak s) (hT : ST D ak ad A s s.heap) (hXE : XE A s s.heap) {o0 m0 x0 : Nat} {i : Int32} {k cells slots : Nat} (hi : i = nI k) (hk : k + 7 ≤ L) (hL : L ≤ 3584) (hc : cells + 15 ≤ room_1.cells) (hs : slots + 1133 ≤ room_1.slots) (kk : LGo p l e s m b below meth c D ak ad A o0 m0 x0 i 1019 (cells + 15) (slots + 1133)) : LGo p l e s m b below meth c D ak ad A o0 m0 x0 i 994 cells slots := by
  obtain ⟨hx, hb, hr, hml, hown, hts, hX, hbl, hlocks, hgv⟩ := id C0
  have hown : s.vm.findClass RL = some m.cls := hown
  have hA : ∀ q : Nat, s.heap.size ≤ q → A q := fun q h => by rw [hAe]; exact h
  have hbA : ¬ A b := by rw [hAe]; exact Nat.not_le.mpr hbl
  intro v LX LM fo H locs ls hI hJ hP hD hS hl
  refine lv_aload_n hx hb dL_law_994 rfl (lv_at hl 3 rfl) ?_
  refine lv_aload_n hx hb dL_law_995 rfl (lv_at hl 4 rfl) ?_
  refine lv_iload hx hb dL_law_996 (lv_at hl 0 rfl) ?_
  refine lv_iconst (v := 1) hx hb dL_law_998 (by decide) ?_
  refine lv_iadd hx hb dL_law_999 ?_
  refine va_sld hx hb hX hbl hbA hS (lk_in (d := 1) hi hk hL (by decide)) dL_law_1000 ?_
  refine lv_topi (fun a1 ea1 => ?_)
  obtain ⟨q1, hh1⟩ := hI.head
  refine lc_i (U := LM) (C := LX) (V := [(o0, .inl (ak 1, 1, .inr (.inl fo)))]) hP hD hS hA (va_runV (As := [.int a1]) (rest := []) ⟨hx, hb, hml, hown, hts⟩ (x_count l D ak ad _ x0 v LX a1 hI) (cwV 1 hts hG_X7_count rfl rfl rfl hv_X7_count ⟨Nat.le_of_ble_eq_true rfl, Nat.le_of_ble_eq_true rfl⟩) (lc_preV (U := LM) (C := LX) (V := [(o0, .inl (ak 1, 1, .inr (.inl fo)))]) (As := [.int a1]) hE hT hP hD hS hA 0 6 rfl rfl hh1) rfl rfl hl.1 rfl (lv_room (Nat.le_of_ble_eq_true rfl)) dL_law_1001 ⟨by omega, by omega⟩) (fun r1 LX H locs hR hP hD hS => ?_)
  obtain ⟨er1, hI⟩ := hR
  refine lv_pop hx hb dL_law_1004 rfl ?_
  refine lv_aload_n hx hb dL_law_1005 rfl (lv_at hl 2 rfl) ?_
  refine lv_aload_n hx hb dL_law_1006 rfl (lv_at hl 4 rfl) ?_
  refine lv_iload hx hb dL_law_1007 (lv_at hl 0 rfl) ?_
  refine lv_iconst (v := 1) hx hb dL_law_1009 (by decide) ?_
  refine lv_iadd hx hb dL_law_1010 ?_
  refine va_sld hx hb hX hbl hbA hS (lk_in (d := 1) hi hk hL (by decide)) dL_law_1011 ?_
  refine W.eq (g2 := F0 m 1012 ls (.int a1 :: .ref m0 :: [])) (by rw [ea1]) ?_
  obtain ⟨q2, hh2⟩ := hJ.head
  refine lc_i (U := []) (C := LM) (V := LX ++ [(o0, .inl (ak 1, 1, .inr (.inl fo)))]) hP hD hS hA (va_runV (As := [.int a1]) (rest := []) ⟨hx, hb, hml, hown, hts⟩ (m_count l D ak ad _ m0 v LM a1 hJ) (cwV 1 hts hG_X8_count rfl rfl rfl hv_X8_count ⟨Nat.le_of_ble_eq_true rfl, Nat.le_of_ble_eq_true rfl⟩) (lc_preV (U := []) (C := LM) (V := LX ++ [(o0, .inl (ak 1, 1, .inr (.inl fo)))]) (As := [.int a1]) hE hT hP hD hS hA 0 7 rfl rfl hh2) rfl rfl hl.1 rfl (lv_room (Nat.le_of_ble_eq_true rfl)) dL_law_1012 ⟨by omega, by omega⟩) (fun r2 LM H locs hR hP hD hS => ?_)
  obtain ⟨er2, hJ⟩ := hR
  have hP : va_P D vwCl (LM ++ (LX ++ [(o0, .inl (ak 1, 1, .inr (.inl fo)))])) H := hP
  have hD : va_D A (LM ++ (LX ++ [(o0, .inl (ak 1, 1, .inr (.inl fo)))])) := hD
  refine lv_pop hx hb dL_law_1015 rfl ?_
  refine lv_goto (tgt := 1019) hx hb dL_law_1016 (by decide) ?_
  refine W.widen (k := cells + 15) (n := slots + 1133) (by omega) (by omega) ?_
  exact kk _ LX LM fo H locs ls hI hJ hP hD hS (lv_sub hl [0, 1, 2, 3, 4] rfl)
