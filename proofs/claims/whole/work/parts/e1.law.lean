/-! ===== cases of the law ===== -/
section LAW
variable {G : eG} {X : eX} {h : Nat → eO} {nx k c sl N : Nat} {xs : Nat → Int32} {i : Int32} {v5 v6 : Option Value}
set_option maxRecDepth 100000 in
theorem law_move (F : eFx G ML_law X) (hG : e_GS G) (hk : k < 512) (hN : e_stat G 5 = some (.int, N, xs)) (i1 : vp_in (i + 1) N) (i2 : vp_in (i + 2) N) (i3 : vp_in (i + 3) N) (i4 : vp_in (i + 4) N) (i5 : vp_in (i + 5) N) (hs : LwS k h nx) (hc : c + 60 ≤ (x_R X).cells) (hsl : sl + 9740 ≤ (x_R X).slots) (kk : ∀ h1 nx1 c1 s1, LwS (k + 1) h1 nx1 → h1 98 = h 98 → c1 ≤ c + 60 → s1 ≤ sl + 9740 → eRun G X 1339 (LL i v5 v6) [] h1 [] nx1 c1 s1) : eRun G X 699 (LL i v5 v6) [] h [] nx c sl := by
  obtain ⟨ca, cb, cA, ring, SS, q6, nl, LE, ra, rb, rA, J, hC, hR, hL⟩ := hs
  refine r_aload_n F dL_law_699 rfl ?_
  refine r_aload_n F dL_law_700 rfl ?_
  refine r_iload F dL_law_701 rfl ?_
  refine r_iconst F dL_law_703 (v := 1) (by decide) ?_
  refine r_iadd F dL_law_704 ?_
  refine r_ialdS F dL_law_705 hN i1 ?_
  refine r_aload_n F dL_law_706 rfl ?_
  refine r_iload F dL_law_707 rfl ?_
  refine r_iconst F dL_law_709 (v := 2) (by decide) ?_
  refine r_iadd F dL_law_710 ?_
  refine r_ialdS F dL_law_711 hN i2 ?_
  refine r_aload_n F dL_law_712 rfl ?_
  refine r_iload F dL_law_713 rfl ?_
  refine r_iconst F dL_law_715 (v := 3) (by decide) ?_
  refine r_iadd F dL_law_716 ?_
  refine r_ialdS F dL_law_717 hN i3 ?_
  refine r_aload_n F dL_law_718 rfl ?_
  refine r_iload F dL_law_719 rfl ?_
  refine r_iconst F dL_law_721 (v := 4) (by decide) ?_
  refine r_iadd F dL_law_722 ?_
  refine r_ialdS F dL_law_723 hN i4 ?_
  obtain ⟨v, mc, ms, hmc, hms, sem⟩ := turn_move (la := x_l X) hG hk hC hR hL ((xs (i + 1).toNatClampNeg)) ((xs (i + 2).toNatClampNeg)) ((xs (i + 3).toNatClampNeg)) ((xs (i + 4).toNatClampNeg))
  refine r_callVB F dL_law_724 (b := 32) (As := [.int (xs (i + 1).toNatClampNeg), .int (xs (i + 2).toNatClampNeg), .int (xs (i + 3).toNatClampNeg), .int (xs (i + 4).toNatClampNeg)]) (S0 := []) lkL_78 mX11_move sem rfl rfl rfl (e_le rfl) (e_le rfl) (e_le rfl) hC.h32 (ci := 11) e_cl11.1 rfl (e_le rfl) (e_lt hC.nx9 rfl) (by omega) (by omega) ?_
  rintro r h1 nx1 ⟨rfl, n1, ⟨fs, h72⟩, sem2⟩
  refine r_aload_n F dL_law_727 rfl ?_
  refine r_aload_n F dL_law_728 rfl ?_
  refine r_iload F dL_law_729 rfl ?_
  refine r_iconst F dL_law_731 (v := 1) (by decide) ?_
  refine r_iadd F dL_law_732 ?_
  refine r_ialdS F dL_law_733 hN i1 ?_
  refine r_aload_n F dL_law_734 rfl ?_
  refine r_iload F dL_law_735 rfl ?_
  refine r_iconst F dL_law_737 (v := 2) (by decide) ?_
  refine r_iadd F dL_law_738 ?_
  refine r_ialdS F dL_law_739 hN i2 ?_
  refine r_aload_n F dL_law_740 rfl ?_
  refine r_iload F dL_law_741 rfl ?_
  refine r_iconst F dL_law_743 (v := 3) (by decide) ?_
  refine r_iadd F dL_law_744 ?_
  refine r_ialdS F dL_law_745 hN i3 ?_
  refine r_aload_n F dL_law_746 rfl ?_
  refine r_iload F dL_law_747 rfl ?_
  refine r_iconst F dL_law_749 (v := 4) (by decide) ?_
  refine r_iadd F dL_law_750 ?_
  refine r_ialdS F dL_law_751 hN i4 ?_
  refine r_callVB F dL_law_752 (b := 72) (As := [.int (xs (i + 1).toNatClampNeg), .int (xs (i + 2).toNatClampNeg), .int (xs (i + 3).toNatClampNeg), .int (xs (i + 4).toNatClampNeg)]) (S0 := [.int v]) lkL_82 mX12_move sem2 rfl rfl rfl (e_le rfl) (e_le rfl) (e_le rfl) h72 (ci := 12) e_cl12.1 rfl (e_le rfl) (e_lt n1 rfl) (by omega) (by omega) ?_
  rintro r2 h2 nx2 ⟨rfl, ls, h98⟩
  refine r_icmp_eq_t F dL_law_755 (tgt := 1339) (by decide) rfl ?_
  exact kk h2 nx2 _ _ ls h98 (by omega) (by omega)
set_option maxRecDepth 100000 in
theorem law_go (F : eFx G ML_law X) (hG : e_GS G) (hk : k < 512) (hN : e_stat G 5 = some (.int, N, xs)) (i1 : vp_in (i + 1) N) (i2 : vp_in (i + 2) N) (i3 : vp_in (i + 3) N) (i4 : vp_in (i + 4) N) (i5 : vp_in (i + 5) N) (hs : LwS k h nx) (hc : c + 60 ≤ (x_R X).cells) (hsl : sl + 9740 ≤ (x_R X).slots) (kk : ∀ h1 nx1 c1 s1, LwS (k + 1) h1 nx1 → h1 98 = h 98 → c1 ≤ c + 60 → s1 ≤ sl + 9740 → eRun G X 1339 (LL i v5 v6) [] h1 [] nx1 c1 s1) : eRun G X 760 (LL i v5 v6) [] h [] nx c sl := by
  obtain ⟨ca, cb, cA, ring, SS, q6, nl, LE, ra, rb, rA, J, hC, hR, hL⟩ := hs
  refine r_aload_n F dL_law_760 rfl ?_
  refine r_aload_n F dL_law_761 rfl ?_
  refine r_iload F dL_law_762 rfl ?_
  refine r_iconst F dL_law_764 (v := 1) (by decide) ?_
  refine r_iadd F dL_law_765 ?_
  refine r_ialdS F dL_law_766 hN i1 ?_
  obtain ⟨v, mc, ms, hmc, hms, sem⟩ := turn_go (la := x_l X) hG hk hC hR hL ((xs (i + 1).toNatClampNeg))
  refine r_callVB F dL_law_767 (b := 32) (As := [.int (xs (i + 1).toNatClampNeg)]) (S0 := []) lkL_83 mX11_go sem rfl rfl rfl (e_le rfl) (e_le rfl) (e_le rfl) hC.h32 (ci := 11) e_cl11.1 rfl (e_le rfl) (e_lt hC.nx9 rfl) (by omega) (by omega) ?_
  rintro r h1 nx1 ⟨rfl, n1, ⟨fs, h72⟩, sem2⟩
  refine r_aload_n F dL_law_770 rfl ?_
  refine r_aload_n F dL_law_771 rfl ?_
  refine r_iload F dL_law_772 rfl ?_
  refine r_iconst F dL_law_774 (v := 1) (by decide) ?_
  refine r_iadd F dL_law_775 ?_
  refine r_ialdS F dL_law_776 hN i1 ?_
  refine r_callVB F dL_law_777 (b := 72) (As := [.int (xs (i + 1).toNatClampNeg)]) (S0 := [.int v]) lkL_86 mX12_go sem2 rfl rfl rfl (e_le rfl) (e_le rfl) (e_le rfl) h72 (ci := 12) e_cl12.1 rfl (e_le rfl) (e_lt n1 rfl) (by omega) (by omega) ?_
  rintro r2 h2 nx2 ⟨rfl, ls, h98⟩
  refine r_icmp_eq_t F dL_law_780 (tgt := 1339) (by decide) rfl ?_
  exact kk h2 nx2 _ _ ls h98 (by omega) (by omega)
set_option maxRecDepth 100000 in
theorem law_log (F : eFx G ML_law X) (hG : e_GS G) (hk : k < 512) (hN : e_stat G 5 = some (.int, N, xs)) (i1 : vp_in (i + 1) N) (i2 : vp_in (i + 2) N) (i3 : vp_in (i + 3) N) (i4 : vp_in (i + 4) N) (i5 : vp_in (i + 5) N) (hs : LwS k h nx) (hc : c + 60 ≤ (x_R X).cells) (hsl : sl + 9740 ≤ (x_R X).slots) (kk : ∀ h1 nx1 c1 s1, LwS (k + 1) h1 nx1 → h1 98 = h 98 → c1 ≤ c + 60 → s1 ≤ sl + 9740 → eRun G X 1339 (LL i v5 v6) [] h1 [] nx1 c1 s1) : eRun G X 785 (LL i v5 v6) [] h [] nx c sl := by
  obtain ⟨ca, cb, cA, ring, SS, q6, nl, LE, ra, rb, rA, J, hC, hR, hL⟩ := hs
  refine r_aload_n F dL_law_785 rfl ?_
  refine r_aload_n F dL_law_786 rfl ?_
  refine r_iload F dL_law_787 rfl ?_
  refine r_iconst F dL_law_789 (v := 1) (by decide) ?_
  refine r_iadd F dL_law_790 ?_
  refine r_ialdS F dL_law_791 hN i1 ?_
  refine r_aload_n F dL_law_792 rfl ?_
  refine r_iload F dL_law_793 rfl ?_
  refine r_iconst F dL_law_795 (v := 2) (by decide) ?_
  refine r_iadd F dL_law_796 ?_
  refine r_ialdS F dL_law_797 hN i2 ?_
  obtain ⟨v, mc, ms, hmc, hms, sem⟩ := turn_log (la := x_l X) hG hk hC hR hL ((xs (i + 1).toNatClampNeg)) ((xs (i + 2).toNatClampNeg))
  refine r_callVB F dL_law_798 (b := 32) (As := [.int (xs (i + 1).toNatClampNeg), .int (xs (i + 2).toNatClampNeg)]) (S0 := []) lkL_87 mX11_log sem rfl rfl rfl (e_le rfl) (e_le rfl) (e_le rfl) hC.h32 (ci := 11) e_cl11.1 rfl (e_le rfl) (e_lt hC.nx9 rfl) (by omega) (by omega) ?_
  rintro r h1 nx1 ⟨rfl, n1, ⟨fs, h72⟩, sem2⟩
  refine r_aload_n F dL_law_801 rfl ?_
  refine r_aload_n F dL_law_802 rfl ?_
  refine r_iload F dL_law_803 rfl ?_
  refine r_iconst F dL_law_805 (v := 1) (by decide) ?_
  refine r_iadd F dL_law_806 ?_
  refine r_ialdS F dL_law_807 hN i1 ?_
  refine r_aload_n F dL_law_808 rfl ?_
  refine r_iload F dL_law_809 rfl ?_
  refine r_iconst F dL_law_811 (v := 2) (by decide) ?_
  refine r_iadd F dL_law_812 ?_
  refine r_ialdS F dL_law_813 hN i2 ?_
  refine r_callVB F dL_law_814 (b := 72) (As := [.int (xs (i + 1).toNatClampNeg), .int (xs (i + 2).toNatClampNeg)]) (S0 := [.int v]) lkL_90 mX12_log sem2 rfl rfl rfl (e_le rfl) (e_le rfl) (e_le rfl) h72 (ci := 12) e_cl12.1 rfl (e_le rfl) (e_lt n1 rfl) (by omega) (by omega) ?_
  rintro r2 h2 nx2 ⟨rfl, ls, h98⟩
  refine r_icmp_eq_t F dL_law_817 (tgt := 1339) (by decide) rfl ?_
  exact kk h2 nx2 _ _ ls h98 (by omega) (by omega)
set_option maxRecDepth 100000 in
theorem law_shift (F : eFx G ML_law X) (hG : e_GS G) (hk : k < 512) (hN : e_stat G 5 = some (.int, N, xs)) (i1 : vp_in (i + 1) N) (i2 : vp_in (i + 2) N) (i3 : vp_in (i + 3) N) (i4 : vp_in (i + 4) N) (i5 : vp_in (i + 5) N) (hs : LwS k h nx) (hc : c + 60 ≤ (x_R X).cells) (hsl : sl + 9740 ≤ (x_R X).slots) (kk : ∀ h1 nx1 c1 s1, LwS (k + 1) h1 nx1 → h1 98 = h 98 → c1 ≤ c + 60 → s1 ≤ sl + 9740 → eRun G X 1339 (LL i v5 v6) [] h1 [] nx1 c1 s1) : eRun G X 822 (LL i v5 v6) [] h [] nx c sl := by
  obtain ⟨ca, cb, cA, ring, SS, q6, nl, LE, ra, rb, rA, J, hC, hR, hL⟩ := hs
  refine r_aload_n F dL_law_822 rfl ?_
  refine r_aload_n F dL_law_823 rfl ?_
  refine r_iload F dL_law_824 rfl ?_
  refine r_iconst F dL_law_826 (v := 1) (by decide) ?_
  refine r_iadd F dL_law_827 ?_
  refine r_ialdS F dL_law_828 hN i1 ?_
  refine r_aload_n F dL_law_829 rfl ?_
  refine r_iload F dL_law_830 rfl ?_
  refine r_iconst F dL_law_832 (v := 2) (by decide) ?_
  refine r_iadd F dL_law_833 ?_
  refine r_ialdS F dL_law_834 hN i2 ?_
  refine r_aload_n F dL_law_835 rfl ?_
  refine r_iload F dL_law_836 rfl ?_
  refine r_iconst F dL_law_838 (v := 3) (by decide) ?_
  refine r_iadd F dL_law_839 ?_
  refine r_ialdS F dL_law_840 hN i3 ?_
  refine r_aload_n F dL_law_841 rfl ?_
  refine r_iload F dL_law_842 rfl ?_
  refine r_iconst F dL_law_844 (v := 4) (by decide) ?_
  refine r_iadd F dL_law_845 ?_
  refine r_ialdS F dL_law_846 hN i4 ?_
  obtain ⟨v, mc, ms, hmc, hms, sem⟩ := turn_shift (la := x_l X) hG hk hC hR hL ((xs (i + 1).toNatClampNeg)) ((xs (i + 2).toNatClampNeg)) ((xs (i + 3).toNatClampNeg)) ((xs (i + 4).toNatClampNeg))
  refine r_callVB F dL_law_847 (b := 32) (As := [.int (xs (i + 1).toNatClampNeg), .int (xs (i + 2).toNatClampNeg), .int (xs (i + 3).toNatClampNeg), .int (xs (i + 4).toNatClampNeg)]) (S0 := []) lkL_91 mX11_shift sem rfl rfl rfl (e_le rfl) (e_le rfl) (e_le rfl) hC.h32 (ci := 11) e_cl11.1 rfl (e_le rfl) (e_lt hC.nx9 rfl) (by omega) (by omega) ?_
  rintro r h1 nx1 ⟨rfl, n1, ⟨fs, h72⟩, sem2⟩
  refine r_aload_n F dL_law_850 rfl ?_
  refine r_aload_n F dL_law_851 rfl ?_
  refine r_iload F dL_law_852 rfl ?_
  refine r_iconst F dL_law_854 (v := 1) (by decide) ?_
  refine r_iadd F dL_law_855 ?_
  refine r_ialdS F dL_law_856 hN i1 ?_
  refine r_aload_n F dL_law_857 rfl ?_
  refine r_iload F dL_law_858 rfl ?_
  refine r_iconst F dL_law_860 (v := 2) (by decide) ?_
  refine r_iadd F dL_law_861 ?_
  refine r_ialdS F dL_law_862 hN i2 ?_
  refine r_aload_n F dL_law_863 rfl ?_
  refine r_iload F dL_law_864 rfl ?_
  refine r_iconst F dL_law_866 (v := 3) (by decide) ?_
  refine r_iadd F dL_law_867 ?_
  refine r_ialdS F dL_law_868 hN i3 ?_
  refine r_aload_n F dL_law_869 rfl ?_
  refine r_iload F dL_law_870 rfl ?_
  refine r_iconst F dL_law_872 (v := 4) (by decide) ?_
  refine r_iadd F dL_law_873 ?_
  refine r_ialdS F dL_law_874 hN i4 ?_
  refine r_callVB F dL_law_875 (b := 72) (As := [.int (xs (i + 1).toNatClampNeg), .int (xs (i + 2).toNatClampNeg), .int (xs (i + 3).toNatClampNeg), .int (xs (i + 4).toNatClampNeg)]) (S0 := [.int v]) lkL_94 mX12_shift sem2 rfl rfl rfl (e_le rfl) (e_le rfl) (e_le rfl) h72 (ci := 12) e_cl12.1 rfl (e_le rfl) (e_lt n1 rfl) (by omega) (by omega) ?_
  rintro r2 h2 nx2 ⟨rfl, ls, h98⟩
  refine r_icmp_eq_t F dL_law_878 (tgt := 1339) (by decide) rfl ?_
  exact kk h2 nx2 _ _ ls h98 (by omega) (by omega)
set_option maxRecDepth 100000 in
theorem law_shake (F : eFx G ML_law X) (hG : e_GS G) (hk : k < 512) (hN : e_stat G 5 = some (.int, N, xs)) (i1 : vp_in (i + 1) N) (i2 : vp_in (i + 2) N) (i3 : vp_in (i + 3) N) (i4 : vp_in (i + 4) N) (i5 : vp_in (i + 5) N) (hs : LwS k h nx) (hc : c + 60 ≤ (x_R X).cells) (hsl : sl + 9740 ≤ (x_R X).slots) (kk : ∀ h1 nx1 c1 s1, LwS (k + 1) h1 nx1 → h1 98 = h 98 → c1 ≤ c + 60 → s1 ≤ sl + 9740 → eRun G X 1339 (LL i v5 v6) [] h1 [] nx1 c1 s1) : eRun G X 883 (LL i v5 v6) [] h [] nx c sl := by
  obtain ⟨ca, cb, cA, ring, SS, q6, nl, LE, ra, rb, rA, J, hC, hR, hL⟩ := hs
  refine r_aload_n F dL_law_883 rfl ?_
  refine r_aload_n F dL_law_884 rfl ?_
  refine r_iload F dL_law_885 rfl ?_
  refine r_iconst F dL_law_887 (v := 1) (by decide) ?_
  refine r_iadd F dL_law_888 ?_
  refine r_ialdS F dL_law_889 hN i1 ?_
  refine r_aload_n F dL_law_890 rfl ?_
  refine r_iload F dL_law_891 rfl ?_
  refine r_iconst F dL_law_893 (v := 2) (by decide) ?_
  refine r_iadd F dL_law_894 ?_
  refine r_ialdS F dL_law_895 hN i2 ?_
  refine r_i2l F dL_law_896 ?_
  refine r_bipush F dL_law_897 (v := 32) (by decide) ?_
  refine r_lshl F dL_law_899 ?_
  refine r_aload_n F dL_law_900 rfl ?_
  refine r_iload F dL_law_901 rfl ?_
  refine r_iconst F dL_law_903 (v := 3) (by decide) ?_
  refine r_iadd F dL_law_904 ?_
  refine r_ialdS F dL_law_905 hN i3 ?_
  refine r_i2l F dL_law_906 ?_
  refine r_ldc2 F dL_law_907 klL_95 ?_
  refine r_land F dL_law_910 ?_
  refine r_lor F dL_law_911 ?_
  obtain ⟨v, mc, ms, hmc, hms, sem⟩ := turn_shake (la := x_l X) hG hk hC hR hL ((xs (i + 1).toNatClampNeg)) ((((xs (i + 2).toNatClampNeg).toInt64 <<< (Int32.toInt64 32 &&& 63)) ||| ((xs (i + 3).toNatClampNeg).toInt64 &&& 4294967295)))
  refine r_callVB F dL_law_912 (b := 32) (As := [.int (xs (i + 1).toNatClampNeg), .long (((xs (i + 2).toNatClampNeg).toInt64 <<< (Int32.toInt64 32 &&& 63)) ||| ((xs (i + 3).toNatClampNeg).toInt64 &&& 4294967295))]) (S0 := []) lkL_97 mX11_shake sem rfl rfl rfl (e_le rfl) (e_le rfl) (e_le rfl) hC.h32 (ci := 11) e_cl11.1 rfl (e_le rfl) (e_lt hC.nx9 rfl) (by omega) (by omega) ?_
  rintro r h1 nx1 ⟨rfl, n1, ⟨fs, h72⟩, sem2⟩
  refine r_aload_n F dL_law_915 rfl ?_
  refine r_aload_n F dL_law_916 rfl ?_
  refine r_iload F dL_law_917 rfl ?_
  refine r_iconst F dL_law_919 (v := 1) (by decide) ?_
  refine r_iadd F dL_law_920 ?_
  refine r_ialdS F dL_law_921 hN i1 ?_
  refine r_aload_n F dL_law_922 rfl ?_
  refine r_iload F dL_law_923 rfl ?_
  refine r_iconst F dL_law_925 (v := 2) (by decide) ?_
  refine r_iadd F dL_law_926 ?_
  refine r_ialdS F dL_law_927 hN i2 ?_
  refine r_i2l F dL_law_928 ?_
  refine r_bipush F dL_law_929 (v := 32) (by decide) ?_
  refine r_lshl F dL_law_931 ?_
  refine r_aload_n F dL_law_932 rfl ?_
  refine r_iload F dL_law_933 rfl ?_
  refine r_iconst F dL_law_935 (v := 3) (by decide) ?_
  refine r_iadd F dL_law_936 ?_
  refine r_ialdS F dL_law_937 hN i3 ?_
  refine r_i2l F dL_law_938 ?_
  refine r_ldc2 F dL_law_939 klL_95 ?_
  refine r_land F dL_law_942 ?_
  refine r_lor F dL_law_943 ?_
  refine r_callVB F dL_law_944 (b := 72) (As := [.int (xs (i + 1).toNatClampNeg), .long (((xs (i + 2).toNatClampNeg).toInt64 <<< (Int32.toInt64 32 &&& 63)) ||| ((xs (i + 3).toNatClampNeg).toInt64 &&& 4294967295))]) (S0 := [.int v]) lkL_101 mX12_shake sem2 rfl rfl rfl (e_le rfl) (e_le rfl) (e_le rfl) h72 (ci := 12) e_cl12.1 rfl (e_le rfl) (e_lt n1 rfl) (by omega) (by omega) ?_
  rintro r2 h2 nx2 ⟨rfl, ls, h98⟩
  refine r_icmp_eq_t F dL_law_947 (tgt := 1339) (by decide) rfl ?_
  exact kk h2 nx2 _ _ ls h98 (by omega) (by omega)
set_option maxRecDepth 100000 in
theorem law_set (F : eFx G ML_law X) (hG : e_GS G) (hk : k < 512) (hN : e_stat G 5 = some (.int, N, xs)) (i1 : vp_in (i + 1) N) (i2 : vp_in (i + 2) N) (i3 : vp_in (i + 3) N) (i4 : vp_in (i + 4) N) (i5 : vp_in (i + 5) N) (hs : LwS k h nx) (hc : c + 60 ≤ (x_R X).cells) (hsl : sl + 9740 ≤ (x_R X).slots) (kk : ∀ h1 nx1 c1 s1, LwS (k + 1) h1 nx1 → h1 98 = h 98 → c1 ≤ c + 60 → s1 ≤ sl + 9740 → eRun G X 1339 (LL i v5 v6) [] h1 [] nx1 c1 s1) : eRun G X 952 (LL i v5 v6) [] h [] nx c sl := by
  obtain ⟨ca, cb, cA, ring, SS, q6, nl, LE, ra, rb, rA, J, hC, hR, hL⟩ := hs
  refine r_aload_n F dL_law_952 rfl ?_
  refine r_aload_n F dL_law_953 rfl ?_
  refine r_iload F dL_law_954 rfl ?_
  refine r_iconst F dL_law_956 (v := 1) (by decide) ?_
  refine r_iadd F dL_law_957 ?_
  refine r_ialdS F dL_law_958 hN i1 ?_
  refine r_aload_n F dL_law_959 rfl ?_
  refine r_iload F dL_law_960 rfl ?_
  refine r_iconst F dL_law_962 (v := 2) (by decide) ?_
  refine r_iadd F dL_law_963 ?_
  refine r_ialdS F dL_law_964 hN i2 ?_
  obtain ⟨v, mc, ms, hmc, hms, sem⟩ := turn_set (la := x_l X) hG hk hC hR hL ((xs (i + 1).toNatClampNeg)) ((xs (i + 2).toNatClampNeg))
  refine r_callVB F dL_law_965 (b := 32) (As := [.int (xs (i + 1).toNatClampNeg), .int (xs (i + 2).toNatClampNeg)]) (S0 := []) lkL_102 mX11_set sem rfl rfl rfl (e_le rfl) (e_le rfl) (e_le rfl) hC.h32 (ci := 11) e_cl11.1 rfl (e_le rfl) (e_lt hC.nx9 rfl) (by omega) (by omega) ?_
  rintro r h1 nx1 ⟨rfl, n1, ⟨fs, h72⟩, sem2⟩
  refine r_aload_n F dL_law_968 rfl ?_
  refine r_aload_n F dL_law_969 rfl ?_
  refine r_iload F dL_law_970 rfl ?_
  refine r_iconst F dL_law_972 (v := 1) (by decide) ?_
  refine r_iadd F dL_law_973 ?_
  refine r_ialdS F dL_law_974 hN i1 ?_
  refine r_aload_n F dL_law_975 rfl ?_
  refine r_iload F dL_law_976 rfl ?_
  refine r_iconst F dL_law_978 (v := 2) (by decide) ?_
  refine r_iadd F dL_law_979 ?_
  refine r_ialdS F dL_law_980 hN i2 ?_
  refine r_callVB F dL_law_981 (b := 72) (As := [.int (xs (i + 1).toNatClampNeg), .int (xs (i + 2).toNatClampNeg)]) (S0 := [.int v]) lkL_105 mX12_set sem2 rfl rfl rfl (e_le rfl) (e_le rfl) (e_le rfl) h72 (ci := 12) e_cl12.1 rfl (e_le rfl) (e_lt n1 rfl) (by omega) (by omega) ?_
  rintro r2 h2 nx2 ⟨rfl, ls, h98⟩
  refine r_icmp_eq_t F dL_law_984 (tgt := 1339) (by decide) rfl ?_
  exact kk h2 nx2 _ _ ls h98 (by omega) (by omega)
set_option maxRecDepth 100000 in
theorem law_wall (F : eFx G ML_law X) (hG : e_GS G) (hk : k < 512) (hN : e_stat G 5 = some (.int, N, xs)) (i1 : vp_in (i + 1) N) (i2 : vp_in (i + 2) N) (i3 : vp_in (i + 3) N) (i4 : vp_in (i + 4) N) (i5 : vp_in (i + 5) N) (hs : LwS k h nx) (hc : c + 60 ≤ (x_R X).cells) (hsl : sl + 9740 ≤ (x_R X).slots) (kk : ∀ h1 nx1 c1 s1, LwS (k + 1) h1 nx1 → h1 98 = h 98 → c1 ≤ c + 60 → s1 ≤ sl + 9740 → eRun G X 1339 (LL i v5 v6) [] h1 [] nx1 c1 s1) : eRun G X 989 (LL i v5 v6) [] h [] nx c sl := by
  obtain ⟨ca, cb, cA, ring, SS, q6, nl, LE, ra, rb, rA, J, hC, hR, hL⟩ := hs
  refine r_aload_n F dL_law_989 rfl ?_
  refine r_aload_n F dL_law_990 rfl ?_
  refine r_iload F dL_law_991 rfl ?_
  refine r_iconst F dL_law_993 (v := 1) (by decide) ?_
  refine r_iadd F dL_law_994 ?_
  refine r_ialdS F dL_law_995 hN i1 ?_
  refine r_aload_n F dL_law_996 rfl ?_
  refine r_iload F dL_law_997 rfl ?_
  refine r_iconst F dL_law_999 (v := 2) (by decide) ?_
  refine r_iadd F dL_law_1000 ?_
  refine r_ialdS F dL_law_1001 hN i2 ?_
  obtain ⟨v, mc, ms, hmc, hms, sem⟩ := turn_wall (la := x_l X) hG hk hC hR hL ((xs (i + 1).toNatClampNeg)) ((xs (i + 2).toNatClampNeg))
  refine r_callVB F dL_law_1002 (b := 32) (As := [.int (xs (i + 1).toNatClampNeg), .int (xs (i + 2).toNatClampNeg)]) (S0 := []) lkL_106 mX11_wall sem rfl rfl rfl (e_le rfl) (e_le rfl) (e_le rfl) hC.h32 (ci := 11) e_cl11.1 rfl (e_le rfl) (e_lt hC.nx9 rfl) (by omega) (by omega) ?_
  rintro r h1 nx1 ⟨rfl, n1, ⟨fs, h72⟩, sem2⟩
  refine r_aload_n F dL_law_1005 rfl ?_
  refine r_aload_n F dL_law_1006 rfl ?_
  refine r_iload F dL_law_1007 rfl ?_
  refine r_iconst F dL_law_1009 (v := 1) (by decide) ?_
  refine r_iadd F dL_law_1010 ?_
  refine r_ialdS F dL_law_1011 hN i1 ?_
  refine r_aload_n F dL_law_1012 rfl ?_
  refine r_iload F dL_law_1013 rfl ?_
  refine r_iconst F dL_law_1015 (v := 2) (by decide) ?_
  refine r_iadd F dL_law_1016 ?_
  refine r_ialdS F dL_law_1017 hN i2 ?_
  refine r_callVB F dL_law_1018 (b := 72) (As := [.int (xs (i + 1).toNatClampNeg), .int (xs (i + 2).toNatClampNeg)]) (S0 := [.int v]) lkL_109 mX12_wall sem2 rfl rfl rfl (e_le rfl) (e_le rfl) (e_le rfl) h72 (ci := 12) e_cl12.1 rfl (e_le rfl) (e_lt n1 rfl) (by omega) (by omega) ?_
  rintro r2 h2 nx2 ⟨rfl, ls, h98⟩
  refine r_icmp_eq_t F dL_law_1021 (tgt := 1339) (by decide) rfl ?_
  exact kk h2 nx2 _ _ ls h98 (by omega) (by omega)
set_option maxRecDepth 100000 in
theorem law_rid (F : eFx G ML_law X) (hG : e_GS G) (hk : k < 512) (hN : e_stat G 5 = some (.int, N, xs)) (i1 : vp_in (i + 1) N) (i2 : vp_in (i + 2) N) (i3 : vp_in (i + 3) N) (i4 : vp_in (i + 4) N) (i5 : vp_in (i + 5) N) (hs : LwS k h nx) (hc : c + 60 ≤ (x_R X).cells) (hsl : sl + 9740 ≤ (x_R X).slots) (kk : ∀ h1 nx1 c1 s1, LwS (k + 1) h1 nx1 → h1 98 = h 98 → c1 ≤ c + 60 → s1 ≤ sl + 9740 → eRun G X 1339 (LL i v5 v6) [] h1 [] nx1 c1 s1) : eRun G X 1026 (LL i v5 v6) [] h [] nx c sl := by
  obtain ⟨ca, cb, cA, ring, SS, q6, nl, LE, ra, rb, rA, J, hC, hR, hL⟩ := hs
  refine r_aload_n F dL_law_1026 rfl ?_
  refine r_aload_n F dL_law_1027 rfl ?_
  refine r_iload F dL_law_1028 rfl ?_
  refine r_iconst F dL_law_1030 (v := 1) (by decide) ?_
  refine r_iadd F dL_law_1031 ?_
  refine r_ialdS F dL_law_1032 hN i1 ?_
  obtain ⟨v, mc, ms, hmc, hms, sem⟩ := turn_rid (la := x_l X) hG hk hC hR hL ((xs (i + 1).toNatClampNeg))
  refine r_callVB F dL_law_1033 (b := 32) (As := [.int (xs (i + 1).toNatClampNeg)]) (S0 := []) lkL_110 mX11_rid sem rfl rfl rfl (e_le rfl) (e_le rfl) (e_le rfl) hC.h32 (ci := 11) e_cl11.1 rfl (e_le rfl) (e_lt hC.nx9 rfl) (by omega) (by omega) ?_
  rintro r h1 nx1 ⟨rfl, n1, ⟨fs, h72⟩, sem2⟩
  refine r_aload_n F dL_law_1036 rfl ?_
  refine r_aload_n F dL_law_1037 rfl ?_
  refine r_iload F dL_law_1038 rfl ?_
  refine r_iconst F dL_law_1040 (v := 1) (by decide) ?_
  refine r_iadd F dL_law_1041 ?_
  refine r_ialdS F dL_law_1042 hN i1 ?_
  refine r_callVB F dL_law_1043 (b := 72) (As := [.int (xs (i + 1).toNatClampNeg)]) (S0 := [.int v]) lkL_113 mX12_rid sem2 rfl rfl rfl (e_le rfl) (e_le rfl) (e_le rfl) h72 (ci := 12) e_cl12.1 rfl (e_le rfl) (e_lt n1 rfl) (by omega) (by omega) ?_
  rintro r2 h2 nx2 ⟨rfl, ls, h98⟩
  refine r_icmp_eq_t F dL_law_1046 (tgt := 1339) (by decide) rfl ?_
  exact kk h2 nx2 _ _ ls h98 (by omega) (by omega)
set_option maxRecDepth 100000 in
theorem law_meets (F : eFx G ML_law X) (hG : e_GS G) (hk : k < 512) (hN : e_stat G 5 = some (.int, N, xs)) (i1 : vp_in (i + 1) N) (i2 : vp_in (i + 2) N) (i3 : vp_in (i + 3) N) (i4 : vp_in (i + 4) N) (i5 : vp_in (i + 5) N) (hs : LwS k h nx) (hc : c + 60 ≤ (x_R X).cells) (hsl : sl + 9740 ≤ (x_R X).slots) (kk : ∀ h1 nx1 c1 s1, LwS (k + 1) h1 nx1 → h1 98 = h 98 → c1 ≤ c + 60 → s1 ≤ sl + 9740 → eRun G X 1339 (LL i v5 v6) [] h1 [] nx1 c1 s1) : eRun G X 1051 (LL i v5 v6) [] h [] nx c sl := by
  obtain ⟨ca, cb, cA, ring, SS, q6, nl, LE, ra, rb, rA, J, hC, hR, hL⟩ := hs
  refine r_aload_n F dL_law_1051 rfl ?_
  refine r_aload_n F dL_law_1052 rfl ?_
  refine r_iload F dL_law_1053 rfl ?_
  refine r_iconst F dL_law_1055 (v := 1) (by decide) ?_
  refine r_iadd F dL_law_1056 ?_
  refine r_ialdS F dL_law_1057 hN i1 ?_
  refine r_aload_n F dL_law_1058 rfl ?_
  refine r_iload F dL_law_1059 rfl ?_
  refine r_iconst F dL_law_1061 (v := 2) (by decide) ?_
  refine r_iadd F dL_law_1062 ?_
  refine r_ialdS F dL_law_1063 hN i2 ?_
  obtain ⟨v, mc, ms, hmc, hms, sem⟩ := turn_meets (la := x_l X) hG hk hC hR hL ((xs (i + 1).toNatClampNeg)) ((xs (i + 2).toNatClampNeg))
  refine r_callVB F dL_law_1064 (b := 32) (As := [.int (xs (i + 1).toNatClampNeg), .int (xs (i + 2).toNatClampNeg)]) (S0 := []) lkL_114 mX11_meets sem rfl rfl rfl (e_le rfl) (e_le rfl) (e_le rfl) hC.h32 (ci := 11) e_cl11.1 rfl (e_le rfl) (e_lt hC.nx9 rfl) (by omega) (by omega) ?_
  rintro r h1 nx1 ⟨rfl, n1, ⟨fs, h72⟩, sem2⟩
  refine r_aload_n F dL_law_1067 rfl ?_
  refine r_aload_n F dL_law_1068 rfl ?_
  refine r_iload F dL_law_1069 rfl ?_
  refine r_iconst F dL_law_1071 (v := 1) (by decide) ?_
  refine r_iadd F dL_law_1072 ?_
  refine r_ialdS F dL_law_1073 hN i1 ?_
  refine r_aload_n F dL_law_1074 rfl ?_
  refine r_iload F dL_law_1075 rfl ?_
  refine r_iconst F dL_law_1077 (v := 2) (by decide) ?_
  refine r_iadd F dL_law_1078 ?_
  refine r_ialdS F dL_law_1079 hN i2 ?_
  refine r_callVB F dL_law_1080 (b := 72) (As := [.int (xs (i + 1).toNatClampNeg), .int (xs (i + 2).toNatClampNeg)]) (S0 := [.int v]) lkL_117 mX12_meets sem2 rfl rfl rfl (e_le rfl) (e_le rfl) (e_le rfl) h72 (ci := 12) e_cl12.1 rfl (e_le rfl) (e_lt n1 rfl) (by omega) (by omega) ?_
  rintro r2 h2 nx2 ⟨rfl, ls, h98⟩
  refine r_icmp_eq_t F dL_law_1083 (tgt := 1339) (by decide) rfl ?_
  exact kk h2 nx2 _ _ ls h98 (by omega) (by omega)
set_option maxRecDepth 100000 in
theorem law_ahead (F : eFx G ML_law X) (hG : e_GS G) (hk : k < 512) (hN : e_stat G 5 = some (.int, N, xs)) (i1 : vp_in (i + 1) N) (i2 : vp_in (i + 2) N) (i3 : vp_in (i + 3) N) (i4 : vp_in (i + 4) N) (i5 : vp_in (i + 5) N) (hs : LwS k h nx) (hc : c + 60 ≤ (x_R X).cells) (hsl : sl + 9740 ≤ (x_R X).slots) (kk : ∀ h1 nx1 c1 s1, LwS (k + 1) h1 nx1 → h1 98 = h 98 → c1 ≤ c + 60 → s1 ≤ sl + 9740 → eRun G X 1339 (LL i v5 v6) [] h1 [] nx1 c1 s1) : eRun G X 1088 (LL i v5 v6) [] h [] nx c sl := by
  obtain ⟨ca, cb, cA, ring, SS, q6, nl, LE, ra, rb, rA, J, hC, hR, hL⟩ := hs
  refine r_aload_n F dL_law_1088 rfl ?_
  refine r_aload_n F dL_law_1089 rfl ?_
  refine r_iload F dL_law_1090 rfl ?_
  refine r_iconst F dL_law_1092 (v := 1) (by decide) ?_
  refine r_iadd F dL_law_1093 ?_
  refine r_ialdS F dL_law_1094 hN i1 ?_
  refine r_aload_n F dL_law_1095 rfl ?_
  refine r_iload F dL_law_1096 rfl ?_
  refine r_iconst F dL_law_1098 (v := 2) (by decide) ?_
  refine r_iadd F dL_law_1099 ?_
  refine r_ialdS F dL_law_1100 hN i2 ?_
  obtain ⟨v, mc, ms, hmc, hms, sem⟩ := turn_ahead (la := x_l X) hG hk hC hR hL ((xs (i + 1).toNatClampNeg)) ((xs (i + 2).toNatClampNeg))
  refine r_callVB F dL_law_1101 (b := 32) (As := [.int (xs (i + 1).toNatClampNeg), .int (xs (i + 2).toNatClampNeg)]) (S0 := []) lkL_118 mX11_ahead sem rfl rfl rfl (e_le rfl) (e_le rfl) (e_le rfl) hC.h32 (ci := 11) e_cl11.1 rfl (e_le rfl) (e_lt hC.nx9 rfl) (by omega) (by omega) ?_
  rintro r h1 nx1 ⟨rfl, n1, ⟨fs, h72⟩, sem2⟩
  refine r_aload_n F dL_law_1104 rfl ?_
  refine r_aload_n F dL_law_1105 rfl ?_
  refine r_iload F dL_law_1106 rfl ?_
  refine r_iconst F dL_law_1108 (v := 1) (by decide) ?_
  refine r_iadd F dL_law_1109 ?_
  refine r_ialdS F dL_law_1110 hN i1 ?_
  refine r_aload_n F dL_law_1111 rfl ?_
  refine r_iload F dL_law_1112 rfl ?_
  refine r_iconst F dL_law_1114 (v := 2) (by decide) ?_
  refine r_iadd F dL_law_1115 ?_
  refine r_ialdS F dL_law_1116 hN i2 ?_
  refine r_callVB F dL_law_1117 (b := 72) (As := [.int (xs (i + 1).toNatClampNeg), .int (xs (i + 2).toNatClampNeg)]) (S0 := [.int v]) lkL_121 mX12_ahead sem2 rfl rfl rfl (e_le rfl) (e_le rfl) (e_le rfl) h72 (ci := 12) e_cl12.1 rfl (e_le rfl) (e_lt n1 rfl) (by omega) (by omega) ?_
  rintro r2 h2 nx2 ⟨rfl, ls, h98⟩
  refine r_icmp_eq_t F dL_law_1120 (tgt := 1339) (by decide) rfl ?_
  exact kk h2 nx2 _ _ ls h98 (by omega) (by omega)
set_option maxRecDepth 100000 in
theorem law_rests (F : eFx G ML_law X) (hG : e_GS G) (hk : k < 512) (hN : e_stat G 5 = some (.int, N, xs)) (i1 : vp_in (i + 1) N) (i2 : vp_in (i + 2) N) (i3 : vp_in (i + 3) N) (i4 : vp_in (i + 4) N) (i5 : vp_in (i + 5) N) (hs : LwS k h nx) (hc : c + 60 ≤ (x_R X).cells) (hsl : sl + 9740 ≤ (x_R X).slots) (kk : ∀ h1 nx1 c1 s1, LwS (k + 1) h1 nx1 → h1 98 = h 98 → c1 ≤ c + 60 → s1 ≤ sl + 9740 → eRun G X 1339 (LL i v5 v6) [] h1 [] nx1 c1 s1) : eRun G X 1125 (LL i v5 v6) [] h [] nx c sl := by
  obtain ⟨ca, cb, cA, ring, SS, q6, nl, LE, ra, rb, rA, J, hC, hR, hL⟩ := hs
  refine r_aload_n F dL_law_1125 rfl ?_
  obtain ⟨v, mc, ms, hmc, hms, sem⟩ := turn_rests (la := x_l X) hG hk hC hR hL 
  refine r_callVB F dL_law_1126 (b := 32) (As := []) (S0 := []) lkL_122 mX11_rests sem rfl rfl rfl (e_le rfl) (e_le rfl) (e_le rfl) hC.h32 (ci := 11) e_cl11.1 rfl (e_le rfl) (e_lt hC.nx9 rfl) (by omega) (by omega) ?_
  rintro r h1 nx1 ⟨rfl, n1, ⟨fs, h72⟩, sem2⟩
  refine r_aload_n F dL_law_1129 rfl ?_
  refine r_callVB F dL_law_1130 (b := 72) (As := []) (S0 := [.int v]) lkL_125 mX12_rests sem2 rfl rfl rfl (e_le rfl) (e_le rfl) (e_le rfl) h72 (ci := 12) e_cl12.1 rfl (e_le rfl) (e_lt n1 rfl) (by omega) (by omega) ?_
  rintro r2 h2 nx2 ⟨rfl, ls, h98⟩
  refine r_icmp_eq_t F dL_law_1133 (tgt := 1339) (by decide) rfl ?_
  exact kk h2 nx2 _ _ ls h98 (by omega) (by omega)
set_option maxRecDepth 100000 in
theorem law_layer (F : eFx G ML_law X) (hG : e_GS G) (hk : k < 512) (hN : e_stat G 5 = some (.int, N, xs)) (i1 : vp_in (i + 1) N) (i2 : vp_in (i + 2) N) (i3 : vp_in (i + 3) N) (i4 : vp_in (i + 4) N) (i5 : vp_in (i + 5) N) (hs : LwS k h nx) (hc : c + 60 ≤ (x_R X).cells) (hsl : sl + 9740 ≤ (x_R X).slots) (kk : ∀ h1 nx1 c1 s1, LwS (k + 1) h1 nx1 → h1 98 = h 98 → c1 ≤ c + 60 → s1 ≤ sl + 9740 → eRun G X 1339 (LL i v5 v6) [] h1 [] nx1 c1 s1) : eRun G X 1138 (LL i v5 v6) [] h [] nx c sl := by
  obtain ⟨ca, cb, cA, ring, SS, q6, nl, LE, ra, rb, rA, J, hC, hR, hL⟩ := hs
  refine r_aload_n F dL_law_1138 rfl ?_
  refine r_aload_n F dL_law_1139 rfl ?_
  refine r_iload F dL_law_1140 rfl ?_
  refine r_iconst F dL_law_1142 (v := 1) (by decide) ?_
  refine r_iadd F dL_law_1143 ?_
  refine r_ialdS F dL_law_1144 hN i1 ?_
  refine r_aload_n F dL_law_1145 rfl ?_
  refine r_iload F dL_law_1146 rfl ?_
  refine r_iconst F dL_law_1148 (v := 2) (by decide) ?_
  refine r_iadd F dL_law_1149 ?_
  refine r_ialdS F dL_law_1150 hN i2 ?_
  obtain ⟨v, mc, ms, hmc, hms, sem⟩ := turn_layer (la := x_l X) hG hk hC hR hL ((xs (i + 1).toNatClampNeg)) ((xs (i + 2).toNatClampNeg))
  refine r_callVB F dL_law_1151 (b := 32) (As := [.int (xs (i + 1).toNatClampNeg), .int (xs (i + 2).toNatClampNeg)]) (S0 := []) lkL_126 mX11_layer sem rfl rfl rfl (e_le rfl) (e_le rfl) (e_le rfl) hC.h32 (ci := 11) e_cl11.1 rfl (e_le rfl) (e_lt hC.nx9 rfl) (by omega) (by omega) ?_
  rintro r h1 nx1 ⟨rfl, n1, ⟨fs, h72⟩, sem2⟩
  refine r_aload_n F dL_law_1154 rfl ?_
  refine r_aload_n F dL_law_1155 rfl ?_
  refine r_iload F dL_law_1156 rfl ?_
  refine r_iconst F dL_law_1158 (v := 1) (by decide) ?_
  refine r_iadd F dL_law_1159 ?_
  refine r_ialdS F dL_law_1160 hN i1 ?_
  refine r_aload_n F dL_law_1161 rfl ?_
  refine r_iload F dL_law_1162 rfl ?_
  refine r_iconst F dL_law_1164 (v := 2) (by decide) ?_
  refine r_iadd F dL_law_1165 ?_
  refine r_ialdS F dL_law_1166 hN i2 ?_
  refine r_callVB F dL_law_1167 (b := 72) (As := [.int (xs (i + 1).toNatClampNeg), .int (xs (i + 2).toNatClampNeg)]) (S0 := [.int v]) lkL_129 mX12_layer sem2 rfl rfl rfl (e_le rfl) (e_le rfl) (e_le rfl) h72 (ci := 12) e_cl12.1 rfl (e_le rfl) (e_lt n1 rfl) (by omega) (by omega) ?_
  rintro r2 h2 nx2 ⟨rfl, ls, h98⟩
  refine r_icmp_eq_t F dL_law_1170 (tgt := 1339) (by decide) rfl ?_
  exact kk h2 nx2 _ _ ls h98 (by omega) (by omega)
set_option maxRecDepth 100000 in
theorem law_line (F : eFx G ML_law X) (hG : e_GS G) (hk : k < 512) (hN : e_stat G 5 = some (.int, N, xs)) (i1 : vp_in (i + 1) N) (i2 : vp_in (i + 2) N) (i3 : vp_in (i + 3) N) (i4 : vp_in (i + 4) N) (i5 : vp_in (i + 5) N) (hs : LwS k h nx) (hc : c + 60 ≤ (x_R X).cells) (hsl : sl + 9740 ≤ (x_R X).slots) (kk : ∀ h1 nx1 c1 s1, LwS (k + 1) h1 nx1 → h1 98 = h 98 → c1 ≤ c + 60 → s1 ≤ sl + 9740 → eRun G X 1339 (LL i v5 v6) [] h1 [] nx1 c1 s1) : eRun G X 1175 (LL i v5 v6) [] h [] nx c sl := by
  obtain ⟨ca, cb, cA, ring, SS, q6, nl, LE, ra, rb, rA, J, hC, hR, hL⟩ := hs
  refine r_aload_n F dL_law_1175 rfl ?_
  refine r_aload_n F dL_law_1176 rfl ?_
  refine r_iload F dL_law_1177 rfl ?_
  refine r_iconst F dL_law_1179 (v := 1) (by decide) ?_
  refine r_iadd F dL_law_1180 ?_
  refine r_ialdS F dL_law_1181 hN i1 ?_
  refine r_aload_n F dL_law_1182 rfl ?_
  refine r_iload F dL_law_1183 rfl ?_
  refine r_iconst F dL_law_1185 (v := 2) (by decide) ?_
  refine r_iadd F dL_law_1186 ?_
  refine r_ialdS F dL_law_1187 hN i2 ?_
  obtain ⟨v, mc, ms, hmc, hms, sem⟩ := turn_line (la := x_l X) hG hk hC hR hL ((xs (i + 1).toNatClampNeg)) ((xs (i + 2).toNatClampNeg))
  refine r_callVB F dL_law_1188 (b := 32) (As := [.int (xs (i + 1).toNatClampNeg), .int (xs (i + 2).toNatClampNeg)]) (S0 := []) lkL_130 mX11_line sem rfl rfl rfl (e_le rfl) (e_le rfl) (e_le rfl) hC.h32 (ci := 11) e_cl11.1 rfl (e_le rfl) (e_lt hC.nx9 rfl) (by omega) (by omega) ?_
  rintro r h1 nx1 ⟨rfl, n1, ⟨fs, h72⟩, sem2⟩
  refine r_aload_n F dL_law_1191 rfl ?_
  refine r_aload_n F dL_law_1192 rfl ?_
  refine r_iload F dL_law_1193 rfl ?_
  refine r_iconst F dL_law_1195 (v := 1) (by decide) ?_
  refine r_iadd F dL_law_1196 ?_
  refine r_ialdS F dL_law_1197 hN i1 ?_
  refine r_aload_n F dL_law_1198 rfl ?_
  refine r_iload F dL_law_1199 rfl ?_
  refine r_iconst F dL_law_1201 (v := 2) (by decide) ?_
  refine r_iadd F dL_law_1202 ?_
  refine r_ialdS F dL_law_1203 hN i2 ?_
  refine r_callVB F dL_law_1204 (b := 72) (As := [.int (xs (i + 1).toNatClampNeg), .int (xs (i + 2).toNatClampNeg)]) (S0 := [.int v]) lkL_133 mX12_line sem2 rfl rfl rfl (e_le rfl) (e_le rfl) (e_le rfl) h72 (ci := 12) e_cl12.1 rfl (e_le rfl) (e_lt n1 rfl) (by omega) (by omega) ?_
  rintro r2 h2 nx2 ⟨rfl, ls, h98⟩
  refine r_icmp_eq_t F dL_law_1207 (tgt := 1339) (by decide) rfl ?_
  exact kk h2 nx2 _ _ ls h98 (by omega) (by omega)
set_option maxRecDepth 100000 in
theorem law_stills (F : eFx G ML_law X) (hG : e_GS G) (hk : k < 512) (hN : e_stat G 5 = some (.int, N, xs)) (i1 : vp_in (i + 1) N) (i2 : vp_in (i + 2) N) (i3 : vp_in (i + 3) N) (i4 : vp_in (i + 4) N) (i5 : vp_in (i + 5) N) (hs : LwS k h nx) (hc : c + 60 ≤ (x_R X).cells) (hsl : sl + 9740 ≤ (x_R X).slots) (kk : ∀ h1 nx1 c1 s1, LwS (k + 1) h1 nx1 → h1 98 = h 98 → c1 ≤ c + 60 → s1 ≤ sl + 9740 → eRun G X 1339 (LL i v5 v6) [] h1 [] nx1 c1 s1) : eRun G X 1212 (LL i v5 v6) [] h [] nx c sl := by
  obtain ⟨ca, cb, cA, ring, SS, q6, nl, LE, ra, rb, rA, J, hC, hR, hL⟩ := hs
  refine r_aload_n F dL_law_1212 rfl ?_
  obtain ⟨v, mc, ms, hmc, hms, sem⟩ := turn_stills (la := x_l X) hG hk hC hR hL 
  refine r_callVB F dL_law_1213 (b := 32) (As := []) (S0 := []) lkL_134 mX11_stills sem rfl rfl rfl (e_le rfl) (e_le rfl) (e_le rfl) hC.h32 (ci := 11) e_cl11.1 rfl (e_le rfl) (e_lt hC.nx9 rfl) (by omega) (by omega) ?_
  rintro r h1 nx1 ⟨rfl, n1, ⟨fs, h72⟩, sem2⟩
  refine r_aload_n F dL_law_1216 rfl ?_
  refine r_callVB F dL_law_1217 (b := 72) (As := []) (S0 := [.int v]) lkL_137 mX12_stills sem2 rfl rfl rfl (e_le rfl) (e_le rfl) (e_le rfl) h72 (ci := 12) e_cl12.1 rfl (e_le rfl) (e_lt n1 rfl) (by omega) (by omega) ?_
  rintro r2 h2 nx2 ⟨rfl, ls, h98⟩
  refine r_icmp_eq_t F dL_law_1220 (tgt := 1339) (by decide) rfl ?_
  exact kk h2 nx2 _ _ ls h98 (by omega) (by omega)
set_option maxRecDepth 100000 in
theorem law_undo (F : eFx G ML_law X) (hG : e_GS G) (hk : k < 512) (hN : e_stat G 5 = some (.int, N, xs)) (i1 : vp_in (i + 1) N) (i2 : vp_in (i + 2) N) (i3 : vp_in (i + 3) N) (i4 : vp_in (i + 4) N) (i5 : vp_in (i + 5) N) (hs : LwS k h nx) (hc : c + 60 ≤ (x_R X).cells) (hsl : sl + 9740 ≤ (x_R X).slots) (kk : ∀ h1 nx1 c1 s1, LwS (k + 1) h1 nx1 → h1 98 = h 98 → c1 ≤ c + 60 → s1 ≤ sl + 9740 → eRun G X 1339 (LL i v5 v6) [] h1 [] nx1 c1 s1) : eRun G X 1225 (LL i v5 v6) [] h [] nx c sl := by
  obtain ⟨ca, cb, cA, ring, SS, q6, nl, LE, ra, rb, rA, J, hC, hR, hL⟩ := hs
  refine r_aload_n F dL_law_1225 rfl ?_
  obtain ⟨v, mc, ms, hmc, hms, sem⟩ := turn_undo (la := x_l X) hG hk hC hR hL 
  refine r_callVB F dL_law_1226 (b := 32) (As := []) (S0 := []) lkL_138 mX11_undo sem rfl rfl rfl (e_le rfl) (e_le rfl) (e_le rfl) hC.h32 (ci := 11) e_cl11.1 rfl (e_le rfl) (e_lt hC.nx9 rfl) (by omega) (by omega) ?_
  rintro r h1 nx1 ⟨rfl, n1, ⟨fs, h72⟩, sem2⟩
  refine r_aload_n F dL_law_1229 rfl ?_
  refine r_callVB F dL_law_1230 (b := 72) (As := []) (S0 := [.int v]) lkL_141 mX12_undo sem2 rfl rfl rfl (e_le rfl) (e_le rfl) (e_le rfl) h72 (ci := 12) e_cl12.1 rfl (e_le rfl) (e_lt n1 rfl) (by omega) (by omega) ?_
  rintro r2 h2 nx2 ⟨rfl, ls, h98⟩
  refine r_icmp_eq_t F dL_law_1233 (tgt := 1339) (by decide) rfl ?_
  exact kk h2 nx2 _ _ ls h98 (by omega) (by omega)
set_option maxRecDepth 100000 in
theorem law_image (F : eFx G ML_law X) (hG : e_GS G) (hk : k < 512) (hN : e_stat G 5 = some (.int, N, xs)) (i1 : vp_in (i + 1) N) (i2 : vp_in (i + 2) N) (i3 : vp_in (i + 3) N) (i4 : vp_in (i + 4) N) (i5 : vp_in (i + 5) N) (hs : LwS k h nx) (hc : c + 60 ≤ (x_R X).cells) (hsl : sl + 9740 ≤ (x_R X).slots) (kk : ∀ h1 nx1 c1 s1, LwS (k + 1) h1 nx1 → h1 98 = h 98 → c1 ≤ c + 60 → s1 ≤ sl + 9740 → eRun G X 1339 (LL i v5 v6) [] h1 [] nx1 c1 s1) : eRun G X 1238 (LL i v5 v6) [] h [] nx c sl := by
  obtain ⟨ca, cb, cA, ring, SS, q6, nl, LE, ra, rb, rA, J, hC, hR, hL⟩ := hs
  refine r_aload_n F dL_law_1238 rfl ?_
  obtain ⟨v, mc, ms, hmc, hms, sem⟩ := turn_image (la := x_l X) hG hk hC hR hL 
  refine r_callVB F dL_law_1239 (b := 32) (As := []) (S0 := []) lkL_142 mX11_image sem rfl rfl rfl (e_le rfl) (e_le rfl) (e_le rfl) hC.h32 (ci := 11) e_cl11.1 rfl (e_le rfl) (e_lt hC.nx9 rfl) (by omega) (by omega) ?_
  rintro r h1 nx1 ⟨rfl, n1, ⟨fs, h72⟩, sem2⟩
  refine r_aload_n F dL_law_1242 rfl ?_
  refine r_callVB F dL_law_1243 (b := 72) (As := []) (S0 := [.int v]) lkL_145 mX12_image sem2 rfl rfl rfl (e_le rfl) (e_le rfl) (e_le rfl) h72 (ci := 12) e_cl12.1 rfl (e_le rfl) (e_lt n1 rfl) (by omega) (by omega) ?_
  rintro r2 h2 nx2 ⟨rfl, ls, h98⟩
  refine r_icmp_eq_t F dL_law_1246 (tgt := 1339) (by decide) rfl ?_
  exact kk h2 nx2 _ _ ls h98 (by omega) (by omega)
set_option maxRecDepth 100000 in
theorem law_back (F : eFx G ML_law X) (hG : e_GS G) (hk : k < 512) (hN : e_stat G 5 = some (.int, N, xs)) (i1 : vp_in (i + 1) N) (i2 : vp_in (i + 2) N) (i3 : vp_in (i + 3) N) (i4 : vp_in (i + 4) N) (i5 : vp_in (i + 5) N) (hs : LwS k h nx) (hc : c + 60 ≤ (x_R X).cells) (hsl : sl + 9740 ≤ (x_R X).slots) (kk : ∀ h1 nx1 c1 s1, LwS (k + 1) h1 nx1 → h1 98 = h 98 → c1 ≤ c + 60 → s1 ≤ sl + 9740 → eRun G X 1339 (LL i v5 v6) [] h1 [] nx1 c1 s1) : eRun G X 1251 (LL i v5 v6) [] h [] nx c sl := by
  obtain ⟨ca, cb, cA, ring, SS, q6, nl, LE, ra, rb, rA, J, hC, hR, hL⟩ := hs
  refine r_aload_n F dL_law_1251 rfl ?_
  obtain ⟨v, mc, ms, hmc, hms, sem⟩ := turn_back (la := x_l X) hG hk hC hR hL 
  refine r_callVB F dL_law_1252 (b := 32) (As := []) (S0 := []) lkL_146 mX11_back sem rfl rfl rfl (e_le rfl) (e_le rfl) (e_le rfl) hC.h32 (ci := 11) e_cl11.1 rfl (e_le rfl) (e_lt hC.nx9 rfl) (by omega) (by omega) ?_
  rintro r h1 nx1 ⟨rfl, n1, ⟨fs, h72⟩, sem2⟩
  refine r_aload_n F dL_law_1255 rfl ?_
  refine r_callVB F dL_law_1256 (b := 72) (As := []) (S0 := [.int v]) lkL_149 mX12_back sem2 rfl rfl rfl (e_le rfl) (e_le rfl) (e_le rfl) h72 (ci := 12) e_cl12.1 rfl (e_le rfl) (e_lt n1 rfl) (by omega) (by omega) ?_
  rintro r2 h2 nx2 ⟨rfl, ls, h98⟩
  refine r_icmp_eq_t F dL_law_1259 (tgt := 1339) (by decide) rfl ?_
  exact kk h2 nx2 _ _ ls h98 (by omega) (by omega)
set_option maxRecDepth 100000 in
theorem law_status (F : eFx G ML_law X) (hG : e_GS G) (hk : k < 512) (hN : e_stat G 5 = some (.int, N, xs)) (i1 : vp_in (i + 1) N) (i2 : vp_in (i + 2) N) (i3 : vp_in (i + 3) N) (i4 : vp_in (i + 4) N) (i5 : vp_in (i + 5) N) (hs : LwS k h nx) (hc : c + 60 ≤ (x_R X).cells) (hsl : sl + 9740 ≤ (x_R X).slots) (kk : ∀ h1 nx1 c1 s1, LwS (k + 1) h1 nx1 → h1 98 = h 98 → c1 ≤ c + 60 → s1 ≤ sl + 9740 → eRun G X 1339 (LL i v5 v6) [] h1 [] nx1 c1 s1) : eRun G X 1264 (LL i v5 v6) [] h [] nx c sl := by
  obtain ⟨ca, cb, cA, ring, SS, q6, nl, LE, ra, rb, rA, J, hC, hR, hL⟩ := hs
  refine r_aload_n F dL_law_1264 rfl ?_
  refine r_aload_n F dL_law_1265 rfl ?_
  refine r_iload F dL_law_1266 rfl ?_
  refine r_iconst F dL_law_1268 (v := 1) (by decide) ?_
  refine r_iadd F dL_law_1269 ?_
  refine r_ialdS F dL_law_1270 hN i1 ?_
  obtain ⟨v, mc, ms, hmc, hms, sem⟩ := turn_status (la := x_l X) hG hk hC hR hL ((xs (i + 1).toNatClampNeg))
  refine r_callVB F dL_law_1271 (b := 32) (As := [.int (xs (i + 1).toNatClampNeg)]) (S0 := []) lkL_150 mX11_status sem rfl rfl rfl (e_le rfl) (e_le rfl) (e_le rfl) hC.h32 (ci := 11) e_cl11.1 rfl (e_le rfl) (e_lt hC.nx9 rfl) (by omega) (by omega) ?_
  rintro r h1 nx1 ⟨rfl, n1, ⟨fs, h72⟩, sem2⟩
  refine r_aload_n F dL_law_1274 rfl ?_
  refine r_aload_n F dL_law_1275 rfl ?_
  refine r_iload F dL_law_1276 rfl ?_
  refine r_iconst F dL_law_1278 (v := 1) (by decide) ?_
  refine r_iadd F dL_law_1279 ?_
  refine r_ialdS F dL_law_1280 hN i1 ?_
  refine r_callVB F dL_law_1281 (b := 72) (As := [.int (xs (i + 1).toNatClampNeg)]) (S0 := [.int v]) lkL_153 mX12_status sem2 rfl rfl rfl (e_le rfl) (e_le rfl) (e_le rfl) h72 (ci := 12) e_cl12.1 rfl (e_le rfl) (e_lt n1 rfl) (by omega) (by omega) ?_
  rintro r2 h2 nx2 ⟨rfl, ls, h98⟩
  refine r_icmp_eq_t F dL_law_1284 (tgt := 1339) (by decide) rfl ?_
  exact kk h2 nx2 _ _ ls h98 (by omega) (by omega)
set_option maxRecDepth 100000 in
theorem law_most (F : eFx G ML_law X) (hG : e_GS G) (hk : k < 512) (hN : e_stat G 5 = some (.int, N, xs)) (i1 : vp_in (i + 1) N) (i2 : vp_in (i + 2) N) (i3 : vp_in (i + 3) N) (i4 : vp_in (i + 4) N) (i5 : vp_in (i + 5) N) (hs : LwS k h nx) (hc : c + 60 ≤ (x_R X).cells) (hsl : sl + 9740 ≤ (x_R X).slots) (kk : ∀ h1 nx1 c1 s1, LwS (k + 1) h1 nx1 → h1 98 = h 98 → c1 ≤ c + 60 → s1 ≤ sl + 9740 → eRun G X 1339 (LL i v5 v6) [] h1 [] nx1 c1 s1) : eRun G X 1289 (LL i v5 v6) [] h [] nx c sl := by
  obtain ⟨ca, cb, cA, ring, SS, q6, nl, LE, ra, rb, rA, J, hC, hR, hL⟩ := hs
  refine r_aload_n F dL_law_1289 rfl ?_
  refine r_aload_n F dL_law_1290 rfl ?_
  refine r_iload F dL_law_1291 rfl ?_
  refine r_iconst F dL_law_1293 (v := 1) (by decide) ?_
  refine r_iadd F dL_law_1294 ?_
  refine r_ialdS F dL_law_1295 hN i1 ?_
  obtain ⟨v, mc, ms, hmc, hms, sem⟩ := turn_most (la := x_l X) hG hk hC hR hL ((xs (i + 1).toNatClampNeg))
  refine r_callVB F dL_law_1296 (b := 32) (As := [.int (xs (i + 1).toNatClampNeg)]) (S0 := []) lkL_154 mX11_most sem rfl rfl rfl (e_le rfl) (e_le rfl) (e_le rfl) hC.h32 (ci := 11) e_cl11.1 rfl (e_le rfl) (e_lt hC.nx9 rfl) (by omega) (by omega) ?_
  rintro r h1 nx1 ⟨rfl, n1, ⟨fs, h72⟩, sem2⟩
  refine r_aload_n F dL_law_1299 rfl ?_
  refine r_aload_n F dL_law_1300 rfl ?_
  refine r_iload F dL_law_1301 rfl ?_
  refine r_iconst F dL_law_1303 (v := 1) (by decide) ?_
  refine r_iadd F dL_law_1304 ?_
  refine r_ialdS F dL_law_1305 hN i1 ?_
  refine r_callVB F dL_law_1306 (b := 72) (As := [.int (xs (i + 1).toNatClampNeg)]) (S0 := [.int v]) lkL_157 mX12_most sem2 rfl rfl rfl (e_le rfl) (e_le rfl) (e_le rfl) h72 (ci := 12) e_cl12.1 rfl (e_le rfl) (e_lt n1 rfl) (by omega) (by omega) ?_
  rintro r2 h2 nx2 ⟨rfl, ls, h98⟩
  refine r_icmp_eq_t F dL_law_1309 (tgt := 1339) (by decide) rfl ?_
  exact kk h2 nx2 _ _ ls h98 (by omega) (by omega)
set_option maxRecDepth 100000 in
theorem law_count (F : eFx G ML_law X) (hG : e_GS G) (hk : k < 512) (hN : e_stat G 5 = some (.int, N, xs)) (i1 : vp_in (i + 1) N) (i2 : vp_in (i + 2) N) (i3 : vp_in (i + 3) N) (i4 : vp_in (i + 4) N) (i5 : vp_in (i + 5) N) (hs : LwS k h nx) (hc : c + 60 ≤ (x_R X).cells) (hsl : sl + 9740 ≤ (x_R X).slots) (kk : ∀ h1 nx1 c1 s1, LwS (k + 1) h1 nx1 → h1 98 = h 98 → c1 ≤ c + 60 → s1 ≤ sl + 9740 → eRun G X 1339 (LL i v5 v6) [] h1 [] nx1 c1 s1) : eRun G X 1314 (LL i v5 v6) [] h [] nx c sl := by
  obtain ⟨ca, cb, cA, ring, SS, q6, nl, LE, ra, rb, rA, J, hC, hR, hL⟩ := hs
  refine r_aload_n F dL_law_1314 rfl ?_
  refine r_aload_n F dL_law_1315 rfl ?_
  refine r_iload F dL_law_1316 rfl ?_
  refine r_iconst F dL_law_1318 (v := 1) (by decide) ?_
  refine r_iadd F dL_law_1319 ?_
  refine r_ialdS F dL_law_1320 hN i1 ?_
  obtain ⟨v, mc, ms, hmc, hms, sem⟩ := turn_count (la := x_l X) hG hk hC hR hL ((xs (i + 1).toNatClampNeg))
  refine r_callVB F dL_law_1321 (b := 32) (As := [.int (xs (i + 1).toNatClampNeg)]) (S0 := []) lkL_158 mX11_count sem rfl rfl rfl (e_le rfl) (e_le rfl) (e_le rfl) hC.h32 (ci := 11) e_cl11.1 rfl (e_le rfl) (e_lt hC.nx9 rfl) (by omega) (by omega) ?_
  rintro r h1 nx1 ⟨rfl, n1, ⟨fs, h72⟩, sem2⟩
  refine r_aload_n F dL_law_1324 rfl ?_
  refine r_aload_n F dL_law_1325 rfl ?_
  refine r_iload F dL_law_1326 rfl ?_
  refine r_iconst F dL_law_1328 (v := 1) (by decide) ?_
  refine r_iadd F dL_law_1329 ?_
  refine r_ialdS F dL_law_1330 hN i1 ?_
  refine r_callVB F dL_law_1331 (b := 72) (As := [.int (xs (i + 1).toNatClampNeg)]) (S0 := [.int v]) lkL_161 mX12_count sem2 rfl rfl rfl (e_le rfl) (e_le rfl) (e_le rfl) h72 (ci := 12) e_cl12.1 rfl (e_le rfl) (e_lt n1 rfl) (by omega) (by omega) ?_
  rintro r2 h2 nx2 ⟨rfl, ls, h98⟩
  refine r_icmp_eq_t F dL_law_1334 (tgt := 1339) (by decide) rfl ?_
  exact kk h2 nx2 _ _ ls h98 (by omega) (by omega)
end LAW
