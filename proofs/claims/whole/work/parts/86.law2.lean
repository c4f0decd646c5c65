theorem dL_law_746 : decode code 746 = .ok (.aload_n 1, 1) := by decide +kernel
theorem dL_law_747 : decode code 747 = .ok (.aload_n 0, 1) := by decide +kernel
theorem dL_law_748 : decode code 748 = .ok (.iload 4, 2) := by decide +kernel
theorem dL_law_750 : decode code 750 = .ok (.iconst 1, 1) := by decide +kernel
theorem dL_law_751 : decode code 751 = .ok (.iadd, 1) := by decide +kernel
theorem dL_law_752 : decode code 752 = .ok (.iaload, 1) := by decide +kernel
theorem dL_law_753 : decode code 753 = .ok (.aload_n 0, 1) := by decide +kernel
theorem dL_law_754 : decode code 754 = .ok (.iload 4, 2) := by decide +kernel
theorem dL_law_756 : decode code 756 = .ok (.iconst 2, 1) := by decide +kernel
theorem dL_law_757 : decode code 757 = .ok (.iadd, 1) := by decide +kernel
theorem dL_law_758 : decode code 758 = .ok (.iaload, 1) := by decide +kernel
theorem dL_law_759 : decode code 759 = .ok (.invokevirtual 90, 3) := by decide +kernel
theorem dL_law_762 : decode code 762 = .ok (.aload_n 2, 1) := by decide +kernel
theorem dL_law_763 : decode code 763 = .ok (.aload_n 0, 1) := by decide +kernel
theorem dL_law_764 : decode code 764 = .ok (.iload 4, 2) := by decide +kernel
theorem dL_law_766 : decode code 766 = .ok (.iconst 1, 1) := by decide +kernel
theorem dL_law_767 : decode code 767 = .ok (.iadd, 1) := by decide +kernel
theorem dL_law_768 : decode code 768 = .ok (.iaload, 1) := by decide +kernel
theorem dL_law_769 : decode code 769 = .ok (.aload_n 0, 1) := by decide +kernel
theorem dL_law_770 : decode code 770 = .ok (.iload 4, 2) := by decide +kernel
theorem dL_law_772 : decode code 772 = .ok (.iconst 2, 1) := by decide +kernel
theorem dL_law_773 : decode code 773 = .ok (.iadd, 1) := by decide +kernel
theorem dL_law_774 : decode code 774 = .ok (.iaload, 1) := by decide +kernel
theorem dL_law_775 : decode code 775 = .ok (.invokevirtual 93, 3) := by decide +kernel
theorem dL_law_778 : decode code 778 = .ok (.if_icmp .eq 965, 3) := by decide +kernel
set_option maxHeartbeats 4000000 in
set_option maxRecDepth 100000 in
/-- of -/
theorem law_14 {p : Program} {l : Launch} {e : Env} {s : State} {m : MethodId} {below : List Frame} {meth : Method} {c : Code} {b L : Nat} {xs : Nat → Int32} {D : va_G} {cy : Nat → ClassId} {aC aM : Nat → Nat} {AC AM : Nat → Prop} {o : Nat} (F : LwF p l s m meth c b L xs D cy aC aM AC AM o) {i : Nat} (hi : i + 5 ≤ L) {cells slots : Nat} (hcs : cells + 1 ≤ room_1.cells ∧ slots + 6 ≤ room_1.slots) (hgo : LwGo p l e s m below meth c b D cy aC aM o i (cells + 1) (slots + 6)) {I : Nat → Int32} {Lg : Nat → Int64} {A : Nat → Nat → Int32} {B : Nat → Nat → Int64} {J : Nat → Int32} {E : Nat → Nat → Int32} {f : Nat → Int64} {H : Heap} {locs : List Loc} {ls : Array Slot} (hP : LwP D cy aC aM o I Lg A B J E f H) (hS : va_S (sNew s) s.heap H locs) (hst : LSt I Lg A B J E) (hl : lv_has ls 7 [(0, .ref b), (1, .ref (aC 0)), (2, .ref (aM 0)), (3, .ref o), (4, .int (nI i))]) : WL p l e s m b below meth c H locs cells slots (F0 m 746 ls []) := by
  obtain ⟨S, hC, hM, hW⟩ := hst
  have hx := F.1.1
  have hb := F.1.2.1
  refine lv_aload_n hx hb dL_law_746 rfl (lv_at hl 1 rfl) ?_
  refine law_arg F (k := 1) 0 4 hl rfl rfl (by omega) (by decide) hS dL_law_747 dL_law_748 dL_law_750 dL_law_751 dL_law_752 ?_
  refine law_arg F (k := 2) 0 4 hl rfl rfl (by omega) (by decide) hS dL_law_753 dL_law_754 dL_law_756 dL_law_757 dL_law_758 ?_
  have hk := t_of hC hM hW (xs (i + 1)) (xs (i + 2)) (K := fun r r' J1 => r = r' ∧ LSt I Lg A B J1 E) (by intros; exact ⟨rfl, _, by assumption, by assumption, by assumption⟩)
  refine lawCi F (As := [.int (xs (i + 1)), .int (xs (i + 2))]) (rest := []) (n := 2) (c_X9_of F.2.2.2.2.2.1 I Lg A B (xs (i + 1)) (xs (i + 2)) _ hk) hP hS mw_3_35 wd_X9_of rfl (by decide +kernel) ⟨rfl, rfl⟩ ⟨Nat.le_of_ble_eq_true rfl, Nat.le_of_ble_eq_true rfl⟩ rfl hl.1 rfl (Nat.le_of_ble_eq_true rfl) dL_law_759 ⟨Nat.le_of_succ_le hcs.1, Nat.le_trans (Nat.le_add_right _ 6) hcs.2⟩ (fun r u H locs h hP hS => ?_)
  obtain ⟨I1, L1, A1, B1⟩ := u
  dsimp only at h hP
  obtain ⟨h, rfl, rfl, rfl, rfl⟩ := h
  try dsimp only at h
  refine lv_aload_n hx hb dL_law_762 rfl (lv_at hl 2 rfl) ?_
  refine law_arg F (k := 1) 0 4 hl rfl rfl (by omega) (by decide) hS dL_law_763 dL_law_764 dL_law_766 dL_law_767 dL_law_768 ?_
  refine law_arg F (k := 2) 0 4 hl rfl rfl (by omega) (by decide) hS dL_law_769 dL_law_770 dL_law_772 dL_law_773 dL_law_774 ?_
  refine lawMi F (As := [.int (xs (i + 1)), .int (xs (i + 2))]) (rest := [.int r]) (n := 2) (c_X10_of F.2.2.2.2.2.2.1 J E (xs (i + 1)) (xs (i + 2)) _ h) hP hS mw_5_84 wd_X10_of rfl (by decide +kernel) ⟨rfl, rfl⟩ ⟨Nat.le_of_ble_eq_true rfl, Nat.le_of_ble_eq_true rfl⟩ rfl hl.1 rfl (Nat.le_of_ble_eq_true rfl) dL_law_775 ⟨Nat.le_of_succ_le hcs.1, Nat.le_trans (Nat.le_add_right _ 6) hcs.2⟩ (fun r' u H locs h hP hS => ?_)
  obtain ⟨J1, E1⟩ := u
  dsimp only at h hP
  obtain ⟨⟨hrr, hst⟩, rfl⟩ := h
  refine lv_icmp_eq (tgt := 1743) hx hb dL_law_778 (by decide) (fun _ => ?_) (fun hc => absurd hrr hc)
  exact W.widen (k := cells + 1) (n := slots + 6) (Nat.le_succ _) (Nat.le_add_right _ _) (hgo _ _ _ _ _ _ _ _ _ _ hP hS hst hl)
theorem dL_law_783 : decode code 783 = .ok (.aload_n 1, 1) := by decide +kernel
theorem dL_law_784 : decode code 784 = .ok (.aload_n 0, 1) := by decide +kernel
theorem dL_law_785 : decode code 785 = .ok (.iload 4, 2) := by decide +kernel
theorem dL_law_787 : decode code 787 = .ok (.iconst 1, 1) := by decide +kernel
theorem dL_law_788 : decode code 788 = .ok (.iadd, 1) := by decide +kernel
theorem dL_law_789 : decode code 789 = .ok (.iaload, 1) := by decide +kernel
theorem dL_law_790 : decode code 790 = .ok (.aload_n 0, 1) := by decide +kernel
theorem dL_law_791 : decode code 791 = .ok (.iload 4, 2) := by decide +kernel
theorem dL_law_793 : decode code 793 = .ok (.iconst 2, 1) := by decide +kernel
theorem dL_law_794 : decode code 794 = .ok (.iadd, 1) := by decide +kernel
theorem dL_law_795 : decode code 795 = .ok (.iaload, 1) := by decide +kernel
theorem dL_law_796 : decode code 796 = .ok (.invokevirtual 94, 3) := by decide +kernel
theorem dL_law_799 : decode code 799 = .ok (.aload_n 2, 1) := by decide +kernel
theorem dL_law_800 : decode code 800 = .ok (.aload_n 0, 1) := by decide +kernel
theorem dL_law_801 : decode code 801 = .ok (.iload 4, 2) := by decide +kernel
theorem dL_law_803 : decode code 803 = .ok (.iconst 1, 1) := by decide +kernel
theorem dL_law_804 : decode code 804 = .ok (.iadd, 1) := by decide +kernel
theorem dL_law_805 : decode code 805 = .ok (.iaload, 1) := by decide +kernel
theorem dL_law_806 : decode code 806 = .ok (.aload_n 0, 1) := by decide +kernel
theorem dL_law_807 : decode code 807 = .ok (.iload 4, 2) := by decide +kernel
theorem dL_law_809 : decode code 809 = .ok (.iconst 2, 1) := by decide +kernel
theorem dL_law_810 : decode code 810 = .ok (.iadd, 1) := by decide +kernel
theorem dL_law_811 : decode code 811 = .ok (.iaload, 1) := by decide +kernel
theorem dL_law_812 : decode code 812 = .ok (.invokevirtual 97, 3) := by decide +kernel
theorem dL_law_815 : decode code 815 = .ok (.if_icmp .eq 928, 3) := by decide +kernel
set_option maxHeartbeats 4000000 in
set_option maxRecDepth 100000 in
/-- doc -/
theorem law_15 {p : Program} {l : Launch} {e : Env} {s : State} {m : MethodId} {below : List Frame} {meth : Method} {c : Code} {b L : Nat} {xs : Nat → Int32} {D : va_G} {cy : Nat → ClassId} {aC aM : Nat → Nat} {AC AM : Nat → Prop} {o : Nat} (F : LwF p l s m meth c b L xs D cy aC aM AC AM o) {i : Nat} (hi : i + 5 ≤ L) {cells slots : Nat} (hcs : cells + 1 ≤ room_1.cells ∧ slots + 6 ≤ room_1.slots) (hgo : LwGo p l e s m below meth c b D cy aC aM o i (cells + 1) (slots + 6)) {I : Nat → Int32} {Lg : Nat → Int64} {A : Nat → Nat → Int32} {B : Nat → Nat → Int64} {J : Nat → Int32} {E : Nat → Nat → Int32} {f : Nat → Int64} {H : Heap} {locs : List Loc} {ls : Array Slot} (hP : LwP D cy aC aM o I Lg A B J E f H) (hS : va_S (sNew s) s.heap H locs) (hst : LSt I Lg A B J E) (hl : lv_has ls 7 [(0, .ref b), (1, .ref (aC 0)), (2, .ref (aM 0)), (3, .ref o), (4, .int (nI i))]) : WL p l e s m b below meth c H locs cells slots (F0 m 783 ls []) := by
  obtain ⟨S, hC, hM, hW⟩ := hst
  have hx := F.1.1
  have hb := F.1.2.1
  refine lv_aload_n hx hb dL_law_783 rfl (lv_at hl 1 rfl) ?_
  refine law_arg F (k := 1) 0 4 hl rfl rfl (by omega) (by decide) hS dL_law_784 dL_law_785 dL_law_787 dL_law_788 dL_law_789 ?_
  refine law_arg F (k := 2) 0 4 hl rfl rfl (by omega) (by decide) hS dL_law_790 dL_law_791 dL_law_793 dL_law_794 dL_law_795 ?_
  have hk := t_doc hC hM hW (xs (i + 1)) (xs (i + 2)) (K := fun r r' J1 E1 => r = r' ∧ LSt I Lg A B J1 E1) (by intros; exact ⟨rfl, _, by assumption, by assumption, by assumption⟩)
  refine lawCi F (As := [.int (xs (i + 1)), .int (xs (i + 2))]) (rest := []) (n := 2) (c_X9_doc F.2.2.2.2.2.1 I Lg A B (xs (i + 1)) (xs (i + 2)) _ hk) hP hS mw_3_46 wd_X9_doc rfl (by decide +kernel) ⟨rfl, rfl⟩ ⟨Nat.le_of_ble_eq_true rfl, Nat.le_of_ble_eq_true rfl⟩ rfl hl.1 rfl (Nat.le_of_ble_eq_true rfl) dL_law_796 ⟨Nat.le_of_succ_le hcs.1, Nat.le_trans (Nat.le_add_right _ 6) hcs.2⟩ (fun r u H locs h hP hS => ?_)
  obtain ⟨I1, L1, A1, B1⟩ := u
  dsimp only at h hP
  obtain ⟨h, rfl, rfl, rfl, rfl⟩ := h
  try dsimp only at h
  refine lv_aload_n hx hb dL_law_799 rfl (lv_at hl 2 rfl) ?_
  refine law_arg F (k := 1) 0 4 hl rfl rfl (by omega) (by decide) hS dL_law_800 dL_law_801 dL_law_803 dL_law_804 dL_law_805 ?_
  refine law_arg F (k := 2) 0 4 hl rfl rfl (by omega) (by decide) hS dL_law_806 dL_law_807 dL_law_809 dL_law_810 dL_law_811 ?_
  refine lawMi F (As := [.int (xs (i + 1)), .int (xs (i + 2))]) (rest := [.int r]) (n := 2) (c_X10_doc F.2.2.2.2.2.2.1 J E (xs (i + 1)) (xs (i + 2)) _ h) hP hS mw_5_88 wd_X10_doc rfl (by decide +kernel) ⟨rfl, rfl⟩ ⟨Nat.le_of_ble_eq_true rfl, Nat.le_of_ble_eq_true rfl⟩ rfl hl.1 rfl (Nat.le_of_ble_eq_true rfl) dL_law_812 ⟨Nat.le_of_succ_le hcs.1, Nat.le_trans (Nat.le_add_right _ 6) hcs.2⟩ (fun r' u H locs h hP hS => ?_)
  obtain ⟨J1, E1⟩ := u
  dsimp only at h hP
  obtain ⟨hrr, hst⟩ := h
  refine lv_icmp_eq (tgt := 1743) hx hb dL_law_815 (by decide) (fun _ => ?_) (fun hc => absurd hrr hc)
  exact W.widen (k := cells + 1) (n := slots + 6) (Nat.le_succ _) (Nat.le_add_right _ _) (hgo _ _ _ _ _ _ _ _ _ _ hP hS hst hl)
theorem dL_law_820 : decode code 820 = .ok (.aload_n 1, 1) := by decide +kernel
theorem dL_law_821 : decode code 821 = .ok (.aload_n 0, 1) := by decide +kernel
theorem dL_law_822 : decode code 822 = .ok (.iload 4, 2) := by decide +kernel
theorem dL_law_824 : decode code 824 = .ok (.iconst 1, 1) := by decide +kernel
theorem dL_law_825 : decode code 825 = .ok (.iadd, 1) := by decide +kernel
theorem dL_law_826 : decode code 826 = .ok (.iaload, 1) := by decide +kernel
theorem dL_law_827 : decode code 827 = .ok (.aload_n 0, 1) := by decide +kernel
theorem dL_law_828 : decode code 828 = .ok (.iload 4, 2) := by decide +kernel
theorem dL_law_830 : decode code 830 = .ok (.iconst 2, 1) := by decide +kernel
theorem dL_law_831 : decode code 831 = .ok (.iadd, 1) := by decide +kernel
theorem dL_law_832 : decode code 832 = .ok (.iaload, 1) := by decide +kernel
theorem dL_law_833 : decode code 833 = .ok (.invokevirtual 98, 3) := by decide +kernel
theorem dL_law_836 : decode code 836 = .ok (.aload_n 2, 1) := by decide +kernel
theorem dL_law_837 : decode code 837 = .ok (.aload_n 0, 1) := by decide +kernel
theorem dL_law_838 : decode code 838 = .ok (.iload 4, 2) := by decide +kernel
theorem dL_law_840 : decode code 840 = .ok (.iconst 1, 1) := by decide +kernel
theorem dL_law_841 : decode code 841 = .ok (.iadd, 1) := by decide +kernel
theorem dL_law_842 : decode code 842 = .ok (.iaload, 1) := by decide +kernel
theorem dL_law_843 : decode code 843 = .ok (.aload_n 0, 1) := by decide +kernel
theorem dL_law_844 : decode code 844 = .ok (.iload 4, 2) := by decide +kernel
theorem dL_law_846 : decode code 846 = .ok (.iconst 2, 1) := by decide +kernel
theorem dL_law_847 : decode code 847 = .ok (.iadd, 1) := by decide +kernel
theorem dL_law_848 : decode code 848 = .ok (.iaload, 1) := by decide +kernel
theorem dL_law_849 : decode code 849 = .ok (.invokevirtual 101, 3) := by decide +kernel
theorem dL_law_852 : decode code 852 = .ok (.if_icmp .eq 891, 3) := by decide +kernel
set_option maxHeartbeats 4000000 in
set_option maxRecDepth 100000 in
/-- has -/
theorem law_16 {p : Program} {l : Launch} {e : Env} {s : State} {m : MethodId} {below : List Frame} {meth : Method} {c : Code} {b L : Nat} {xs : Nat → Int32} {D : va_G} {cy : Nat → ClassId} {aC aM : Nat → Nat} {AC AM : Nat → Prop} {o : Nat} (F : LwF p l s m meth c b L xs D cy aC aM AC AM o) {i : Nat} (hi : i + 5 ≤ L) {cells slots : Nat} (hcs : cells + 1 ≤ room_1.cells ∧ slots + 6 ≤ room_1.slots) (hgo : LwGo p l e s m below meth c b D cy aC aM o i (cells + 1) (slots + 6)) {I : Nat → Int32} {Lg : Nat → Int64} {A : Nat → Nat → Int32} {B : Nat → Nat → Int64} {J : Nat → Int32} {E : Nat → Nat → Int32} {f : Nat → Int64} {H : Heap} {locs : List Loc} {ls : Array Slot} (hP : LwP D cy aC aM o I Lg A B J E f H) (hS : va_S (sNew s) s.heap H locs) (hst : LSt I Lg A B J E) (hl : lv_has ls 7 [(0, .ref b), (1, .ref (aC 0)), (2, .ref (aM 0)), (3, .ref o), (4, .int (nI i))]) : WL p l e s m b below meth c H locs cells slots (F0 m 820 ls []) := by
  obtain ⟨S, hC, hM, hW⟩ := hst
  have hx := F.1.1
  have hb := F.1.2.1
  refine lv_aload_n hx hb dL_law_820 rfl (lv_at hl 1 rfl) ?_
  refine law_arg F (k := 1) 0 4 hl rfl rfl (by omega) (by decide) hS dL_law_821 dL_law_822 dL_law_824 dL_law_825 dL_law_826 ?_
  refine law_arg F (k := 2) 0 4 hl rfl rfl (by omega) (by decide) hS dL_law_827 dL_law_828 dL_law_830 dL_law_831 dL_law_832 ?_
  have hk := t_has hC hM hW (xs (i + 1)) (xs (i + 2)) (K := fun r r' J1 => r = r' ∧ LSt I Lg A B J1 E) (by intros; exact ⟨rfl, _, by assumption, by assumption, by assumption⟩)
  refine lawCi F (As := [.int (xs (i + 1)), .int (xs (i + 2))]) (rest := []) (n := 2) (c_X9_has F.2.2.2.2.2.1 I Lg A B (xs (i + 1)) (xs (i + 2)) _ hk) hP hS mw_3_64 wd_X9_has rfl (by decide +kernel) ⟨rfl, rfl⟩ ⟨Nat.le_of_ble_eq_true rfl, Nat.le_of_ble_eq_true rfl⟩ rfl hl.1 rfl (Nat.le_of_ble_eq_true rfl) dL_law_833 ⟨Nat.le_of_succ_le hcs.1, Nat.le_trans (Nat.le_add_right _ 6) hcs.2⟩ (fun r u H locs h hP hS => ?_)
  obtain ⟨I1, L1, A1, B1⟩ := u
  dsimp only at h hP
  obtain ⟨h, rfl, rfl, rfl, rfl⟩ := h
  try dsimp only at h
  refine lv_aload_n hx hb dL_law_836 rfl (lv_at hl 2 rfl) ?_
  refine law_arg F (k := 1) 0 4 hl rfl rfl (by omega) (by decide) hS dL_law_837 dL_law_838 dL_law_840 dL_law_841 dL_law_842 ?_
  refine law_arg F (k := 2) 0 4 hl rfl rfl (by omega) (by decide) hS dL_law_843 dL_law_844 dL_law_846 dL_law_847 dL_law_848 ?_
  refine lawMi F (As := [.int (xs (i + 1)), .int (xs (i + 2))]) (rest := [.int r]) (n := 2) (c_X10_has F.2.2.2.2.2.2.1 J E (xs (i + 1)) (xs (i + 2)) _ h) hP hS mw_5_128 wd_X10_has rfl (by decide +kernel) ⟨rfl, rfl⟩ ⟨Nat.le_of_ble_eq_true rfl, Nat.le_of_ble_eq_true rfl⟩ rfl hl.1 rfl (Nat.le_of_ble_eq_true rfl) dL_law_849 ⟨Nat.le_of_succ_le hcs.1, Nat.le_trans (Nat.le_add_right _ 6) hcs.2⟩ (fun r' u H locs h hP hS => ?_)
  obtain ⟨J1, E1⟩ := u
  dsimp only at h hP
  obtain ⟨⟨hrr, hst⟩, rfl⟩ := h
  refine lv_icmp_eq (tgt := 1743) hx hb dL_law_852 (by decide) (fun _ => ?_) (fun hc => absurd hrr hc)
  exact W.widen (k := cells + 1) (n := slots + 6) (Nat.le_succ _) (Nat.le_add_right _ _) (hgo _ _ _ _ _ _ _ _ _ _ hP hS hst hl)
theorem dL_law_857 : decode code 857 = .ok (.aload_n 1, 1) := by decide +kernel
theorem dL_law_858 : decode code 858 = .ok (.aload_n 0, 1) := by decide +kernel
theorem dL_law_859 : decode code 859 = .ok (.iload 4, 2) := by decide +kernel
theorem dL_law_861 : decode code 861 = .ok (.iconst 1, 1) := by decide +kernel
theorem dL_law_862 : decode code 862 = .ok (.iadd, 1) := by decide +kernel
theorem dL_law_863 : decode code 863 = .ok (.iaload, 1) := by decide +kernel
theorem dL_law_864 : decode code 864 = .ok (.aload_n 0, 1) := by decide +kernel
theorem dL_law_865 : decode code 865 = .ok (.iload 4, 2) := by decide +kernel
theorem dL_law_867 : decode code 867 = .ok (.iconst 2, 1) := by decide +kernel
theorem dL_law_868 : decode code 868 = .ok (.iadd, 1) := by decide +kernel
theorem dL_law_869 : decode code 869 = .ok (.iaload, 1) := by decide +kernel
theorem dL_law_870 : decode code 870 = .ok (.aload_n 3, 1) := by decide +kernel
theorem dL_law_871 : decode code 871 = .ok (.invokestatic 102, 3) := by decide +kernel
theorem dL_law_874 : decode code 874 = .ok (.istore 5, 2) := by decide +kernel
theorem dL_law_876 : decode code 876 = .ok (.aload_n 2, 1) := by decide +kernel
theorem dL_law_877 : decode code 877 = .ok (.aload_n 0, 1) := by decide +kernel
theorem dL_law_878 : decode code 878 = .ok (.iload 4, 2) := by decide +kernel
theorem dL_law_880 : decode code 880 = .ok (.iconst 1, 1) := by decide +kernel
theorem dL_law_881 : decode code 881 = .ok (.iadd, 1) := by decide +kernel
theorem dL_law_882 : decode code 882 = .ok (.iaload, 1) := by decide +kernel
theorem dL_law_883 : decode code 883 = .ok (.aload_n 0, 1) := by decide +kernel
theorem dL_law_884 : decode code 884 = .ok (.iload 4, 2) := by decide +kernel
theorem dL_law_886 : decode code 886 = .ok (.iconst 2, 1) := by decide +kernel
theorem dL_law_887 : decode code 887 = .ok (.iadd, 1) := by decide +kernel
theorem dL_law_888 : decode code 888 = .ok (.iaload, 1) := by decide +kernel
theorem dL_law_889 : decode code 889 = .ok (.invokevirtual 107, 3) := by decide +kernel
theorem dL_law_892 : decode code 892 = .ok (.istore 6, 2) := by decide +kernel
theorem dL_law_894 : decode code 894 = .ok (.aload_n 2, 1) := by decide +kernel
theorem dL_law_895 : decode code 895 = .ok (.invokevirtual 108, 3) := by decide +kernel
theorem dL_law_898 : decode code 898 = .ok (.iload 5, 2) := by decide +kernel
theorem dL_law_900 : decode code 900 = .ok (.if_icmp .eq 5, 3) := by decide +kernel
theorem dL_law_905 : decode code 905 = .ok (.iload 5, 2) := by decide +kernel
theorem dL_law_907 : decode code 907 = .ok (.ifCond .ne 15, 3) := by decide +kernel
theorem dL_law_910 : decode code 910 = .ok (.aload_n 3, 1) := by decide +kernel
theorem dL_law_911 : decode code 911 = .ok (.iconst 0, 1) := by decide +kernel
theorem dL_law_912 : decode code 912 = .ok (.laload, 1) := by decide +kernel
theorem dL_law_913 : decode code 913 = .ok (.iload 6, 2) := by decide +kernel
theorem dL_law_915 : decode code 915 = .ok (.i2l, 1) := by decide +kernel
theorem dL_law_916 : decode code 916 = .ok (.lcmp, 1) := by decide +kernel
theorem dL_law_917 : decode code 917 = .ok (.ifCond .eq 5, 3) := by decide +kernel
theorem dL_law_922 : decode code 922 = .ok (.goto 821, 3) := by decide +kernel
set_option maxHeartbeats 4000000 in
set_option maxRecDepth 100000 in
/-- numberOf -/
theorem law_17 {p : Program} {l : Launch} {e : Env} {s : State} {m : MethodId} {below : List Frame} {meth : Method} {c : Code} {b L : Nat} {xs : Nat → Int32} {D : va_G} {cy : Nat → ClassId} {aC aM : Nat → Nat} {AC AM : Nat → Prop} {o : Nat} (F : LwF p l s m meth c b L xs D cy aC aM AC AM o) {i : Nat} (hi : i + 5 ≤ L) {cells slots : Nat} (hcs : cells + 1 ≤ room_1.cells ∧ slots + 6 ≤ room_1.slots) (hgo : LwGo p l e s m below meth c b D cy aC aM o i (cells + 1) (slots + 6)) {I : Nat → Int32} {Lg : Nat → Int64} {A : Nat → Nat → Int32} {B : Nat → Nat → Int64} {J : Nat → Int32} {E : Nat → Nat → Int32} {f : Nat → Int64} {H : Heap} {locs : List Loc} {ls : Array Slot} (hP : LwP D cy aC aM o I Lg A B J E f H) (hS : va_S (sNew s) s.heap H locs) (hst : LSt I Lg A B J E) (hl : lv_has ls 7 [(0, .ref b), (1, .ref (aC 0)), (2, .ref (aM 0)), (3, .ref o), (4, .int (nI i))]) : WL p l e s m b below meth c H locs cells slots (F0 m 857 ls []) := by
  obtain ⟨S, hC, hM, hW⟩ := hst
  have hx := F.1.1
  have hb := F.1.2.1
  refine lv_aload_n hx hb dL_law_857 rfl (lv_at hl 1 rfl) ?_
  refine law_arg F (k := 1) 0 4 hl rfl rfl (by omega) (by decide) hS dL_law_858 dL_law_859 dL_law_861 dL_law_862 dL_law_863 ?_
  refine law_arg F (k := 2) 0 4 hl rfl rfl (by omega) (by decide) hS dL_law_864 dL_law_865 dL_law_867 dL_law_868 dL_law_869 ?_
  refine lv_aload_n hx hb dL_law_870 rfl (lv_at hl 3 rfl) ?_
  have hk : wX9_numberOf I Lg A B (xs (i + 1)) (xs (i + 2)) (fun r => (fun k g => wX10_numberOf J E (xs (i + 1)) (xs (i + 2)) (fun r' J' => J' 0 = k ∧ (k = 0 → g 0 = r'.toInt64) ∧ LSt I Lg A B J' E)) 0 (vp_updL f 0 r.toInt64)) ((fun k g => wX10_numberOf J E (xs (i + 1)) (xs (i + 2)) (fun r' J' => J' 0 = k ∧ (k = 0 → g 0 = r'.toInt64) ∧ LSt I Lg A B J' E)) 1 f) := t_numberOf hC hM hW (xs (i + 1)) (xs (i + 2)) (K := fun r r' J' => J' 0 = 0 ∧ ((0 : Int32) = 0 → vp_updL f 0 r.toInt64 0 = r'.toInt64) ∧ LSt I Lg A B J' E) (KX := fun r' J' => J' 0 = 1 ∧ ((1 : Int32) = 0 → f 0 = r'.toInt64) ∧ LSt I Lg A B J' E) (fun r J' h8 h9 => ⟨h9, fun _ => ul_s _ _ _, S, hC, h8, hW⟩) (fun r J' h8 h9 => ⟨h9, fun q => absurd q (by decide), S, hC, h8, hW⟩)
  refine lawW F (As := [.ref (aC 0), .int (xs (i + 1)), .int (xs (i + 2)), .ref o]) (rest := []) (n := 4) (c_L_numberOf F.2.2.2.2.2.1 F.2.2.1 F.2.2.2.2.2.2.2.2.1 I Lg A B (xs (i + 1)) (xs (i + 2)) f (fun k g => wX10_numberOf J E (xs (i + 1)) (xs (i + 2)) (fun r' J' => J' 0 = k ∧ (k = 0 → g 0 = r'.toInt64) ∧ LSt I Lg A B J' E)) hk) hP hS mw_4_35 ⟨mw_4_36, mw_1_0, xl_code_numberOf⟩ (by decide +kernel) ⟨rfl, rfl⟩ ⟨Nat.le_of_ble_eq_true rfl, Nat.le_of_ble_eq_true rfl⟩ rfl hl.1 rfl (Nat.le_of_ble_eq_true rfl) dL_law_871 hcs (fun r u H locs h hP hS => ?_)
  obtain ⟨⟨I1, L1, A1, B1⟩, f1⟩ := u
  dsimp only at h hP
  obtain ⟨h, rfl, rfl, rfl, rfl⟩ := h
  try dsimp only at h
  refine lv_istore (lv' := [(5, .int r), (0, .ref b), (1, .ref (aC 0)), (2, .ref (aM 0)), (3, .ref o), (4, .int (nI i))]) hx hb dL_law_874 hl (by decide) rfl (fun ls hl => ?_)
  refine lv_aload_n hx hb dL_law_876 rfl (lv_at hl 3 rfl) ?_
  refine law_arg F (k := 1) 1 5 hl rfl rfl (by omega) (by decide) hS dL_law_877 dL_law_878 dL_law_880 dL_law_881 dL_law_882 ?_
  refine law_arg F (k := 2) 1 5 hl rfl rfl (by omega) (by decide) hS dL_law_883 dL_law_884 dL_law_886 dL_law_887 dL_law_888 ?_
  refine lawMi F (As := [.int (xs (i + 1)), .int (xs (i + 2))]) (rest := []) (n := 2) (c_X10_numberOf F.2.2.2.2.2.2.1 J E (xs (i + 1)) (xs (i + 2)) _ h) hP hS mw_5_132 wd_X10_numberOf rfl (by decide +kernel) ⟨rfl, rfl⟩ ⟨Nat.le_of_ble_eq_true rfl, Nat.le_of_ble_eq_true rfl⟩ rfl hl.1 rfl (Nat.le_of_ble_eq_true rfl) dL_law_889 hcs (fun r' u H locs h hP hS => ?_)
  obtain ⟨J1, E1⟩ := u
  dsimp only at h hP
  obtain ⟨⟨hj0, hf0, hst⟩, rfl⟩ := h
  refine lv_istore (lv' := [(6, .int r'), (5, .int r), (0, .ref b), (1, .ref (aC 0)), (2, .ref (aM 0)), (3, .ref o), (4, .int (nI i))]) hx hb dL_law_892 hl (by decide) rfl (fun ls hl => ?_)
  refine lv_aload_n hx hb dL_law_894 rfl (lv_at hl 4 rfl) ?_
  have hth : wX10_thrown J1 E (fun v => v = r) := hj0
  refine lawMi F (As := []) (rest := []) (n := 0) (c_X10_thrown F.2.2.2.2.2.2.1 J1 E _ hth) hP hS mw_4_205 wd_X10_thrown rfl (by decide +kernel) ⟨rfl, rfl⟩ ⟨Nat.le_of_ble_eq_true rfl, Nat.le_of_ble_eq_true rfl⟩ rfl hl.1 rfl (Nat.le_of_ble_eq_true rfl) dL_law_895 hcs (fun r2 u H locs h hP hS => ?_)
  obtain ⟨J2, E2⟩ := u
  dsimp only at h hP
  obtain ⟨hr2, rfl, rfl⟩ := h
  refine lv_iload hx hb dL_law_898 (lv_at hl 1 rfl) ?_
  refine lv_icmp_eq (tgt := 905) hx hb dL_law_900 (by decide) (fun _ => ?_) (fun hc => absurd hr2 hc)
  refine lv_iload hx hb dL_law_905 (lv_at hl 1 rfl) ?_
  refine lv_if_ne (tgt := 922) hx hb dL_law_907 (by decide) (fun hc => ?_) (fun hc => ?_)
  · refine lv_goto (tgt := 1743) hx hb dL_law_922 (by decide) ?_
    exact hgo _ _ _ _ _ _ _ _ _ _ hP hS hst (lv_sub hl [2, 3, 4, 5, 6] rfl)
  · refine lv_aload_n hx hb dL_law_910 rfl (lv_at hl 5 rfl) ?_
    refine lv_iconst (v := 0) hx hb dL_law_911 (by decide) ?_
    refine va_lald hx hb F.2.2.2.1.1 hP.2.2 0 1 rfl rfl (vp_in_nI (n := 0) (by decide) (by decide)) dL_law_912 ?_
    refine lv_iload hx hb dL_law_913 (lv_at hl 0 rfl) ?_
    refine lv_i2l hx hb dL_law_915 rfl ?_
    refine W.lcmp hx hb dL_law_916 ?_
    refine lv_if_eq (tgt := 922) hx hb dL_law_917 (by decide) (fun _ => ?_) (fun hq => absurd (by rw [lc_0]; exact hf0 hc) hq)
    refine lv_goto (tgt := 1743) hx hb dL_law_922 (by decide) ?_
    exact hgo _ _ _ _ _ _ _ _ _ _ hP hS hst (lv_sub hl [2, 3, 4, 5, 6] rfl)
theorem dL_law_925 : decode code 925 = .ok (.aload_n 1, 1) := by decide +kernel
theorem dL_law_926 : decode code 926 = .ok (.aload_n 0, 1) := by decide +kernel
theorem dL_law_927 : decode code 927 = .ok (.iload 4, 2) := by decide +kernel
theorem dL_law_929 : decode code 929 = .ok (.iconst 1, 1) := by decide +kernel
theorem dL_law_930 : decode code 930 = .ok (.iadd, 1) := by decide +kernel
theorem dL_law_931 : decode code 931 = .ok (.iaload, 1) := by decide +kernel
theorem dL_law_932 : decode code 932 = .ok (.invokevirtual 112, 3) := by decide +kernel
theorem dL_law_935 : decode code 935 = .ok (.aload_n 2, 1) := by decide +kernel
theorem dL_law_936 : decode code 936 = .ok (.aload_n 0, 1) := by decide +kernel
theorem dL_law_937 : decode code 937 = .ok (.iload 4, 2) := by decide +kernel
theorem dL_law_939 : decode code 939 = .ok (.iconst 1, 1) := by decide +kernel
theorem dL_law_940 : decode code 940 = .ok (.iadd, 1) := by decide +kernel
theorem dL_law_941 : decode code 941 = .ok (.iaload, 1) := by decide +kernel
theorem dL_law_942 : decode code 942 = .ok (.invokevirtual 115, 3) := by decide +kernel
theorem dL_law_945 : decode code 945 = .ok (.if_icmp .eq 798, 3) := by decide +kernel
set_option maxHeartbeats 4000000 in
set_option maxRecDepth 100000 in
/-- hit -/
theorem law_18 {p : Program} {l : Launch} {e : Env} {s : State} {m : MethodId} {below : List Frame} {meth : Method} {c : Code} {b L : Nat} {xs : Nat → Int32} {D : va_G} {cy : Nat → ClassId} {aC aM : Nat → Nat} {AC AM : Nat → Prop} {o : Nat} (F : LwF p l s m meth c b L xs D cy aC aM AC AM o) {i : Nat} (hi : i + 5 ≤ L) {cells slots : Nat} (hcs : cells + 1 ≤ room_1.cells ∧ slots + 6 ≤ room_1.slots) (hgo : LwGo p l e s m below meth c b D cy aC aM o i (cells + 1) (slots + 6)) {I : Nat → Int32} {Lg : Nat → Int64} {A : Nat → Nat → Int32} {B : Nat → Nat → Int64} {J : Nat → Int32} {E : Nat → Nat → Int32} {f : Nat → Int64} {H : Heap} {locs : List Loc} {ls : Array Slot} (hP : LwP D cy aC aM o I Lg A B J E f H) (hS : va_S (sNew s) s.heap H locs) (hst : LSt I Lg A B J E) (hl : lv_has ls 7 [(0, .ref b), (1, .ref (aC 0)), (2, .ref (aM 0)), (3, .ref o), (4, .int (nI i))]) : WL p l e s m b below meth c H locs cells slots (F0 m 925 ls []) := by
  obtain ⟨S, hC, hM, hW⟩ := hst
  have hx := F.1.1
  have hb := F.1.2.1
  refine lv_aload_n hx hb dL_law_925 rfl (lv_at hl 1 rfl) ?_
  refine law_arg F (k := 1) 0 4 hl rfl rfl (by omega) (by decide) hS dL_law_926 dL_law_927 dL_law_929 dL_law_930 dL_law_931 ?_
  have hk := t_hit hC hM hW (xs (i + 1)) (K := fun r r' J1 E1 => r = r' ∧ LSt I Lg A B J1 E1) (by intros; exact ⟨rfl, _, by assumption, by assumption, by assumption⟩)
  refine lawCi F (As := [.int (xs (i + 1))]) (rest := []) (n := 1) (c_X9_hit F.2.2.2.2.2.1 I Lg A B (xs (i + 1)) _ hk) hP hS mw_3_68 wd_X9_hit rfl (by decide +kernel) ⟨rfl, rfl⟩ ⟨Nat.le_of_ble_eq_true rfl, Nat.le_of_ble_eq_true rfl⟩ rfl hl.1 rfl (Nat.le_of_ble_eq_true rfl) dL_law_932 ⟨Nat.le_of_succ_le hcs.1, Nat.le_trans (Nat.le_add_right _ 6) hcs.2⟩ (fun r u H locs h hP hS => ?_)
  obtain ⟨I1, L1, A1, B1⟩ := u
  dsimp only at h hP
  obtain ⟨h, rfl, rfl, rfl, rfl⟩ := h
  try dsimp only at h
  refine lv_aload_n hx hb dL_law_935 rfl (lv_at hl 2 rfl) ?_
  refine law_arg F (k := 1) 0 4 hl rfl rfl (by omega) (by decide) hS dL_law_936 dL_law_937 dL_law_939 dL_law_940 dL_law_941 ?_
  refine lawMi F (As := [.int (xs (i + 1))]) (rest := [.int r]) (n := 1) (c_X10_hit F.2.2.2.2.2.2.1 J E (xs (i + 1)) _ h) hP hS mw_5_136 wd_X10_hit rfl (by decide +kernel) ⟨rfl, rfl⟩ ⟨Nat.le_of_ble_eq_true rfl, Nat.le_of_ble_eq_true rfl⟩ rfl hl.1 rfl (Nat.le_of_ble_eq_true rfl) dL_law_942 ⟨Nat.le_of_succ_le hcs.1, Nat.le_trans (Nat.le_add_right _ 6) hcs.2⟩ (fun r' u H locs h hP hS => ?_)
  obtain ⟨J1, E1⟩ := u
  dsimp only at h hP
  obtain ⟨hrr, hst⟩ := h
  refine lv_icmp_eq (tgt := 1743) hx hb dL_law_945 (by decide) (fun _ => ?_) (fun hc => absurd hrr hc)
  exact W.widen (k := cells + 1) (n := slots + 6) (Nat.le_succ _) (Nat.le_add_right _ _) (hgo _ _ _ _ _ _ _ _ _ _ hP hS hst hl)
theorem dL_law_950 : decode code 950 = .ok (.aload_n 1, 1) := by decide +kernel
theorem dL_law_951 : decode code 951 = .ok (.aload_n 0, 1) := by decide +kernel
theorem dL_law_952 : decode code 952 = .ok (.iload 4, 2) := by decide +kernel
theorem dL_law_954 : decode code 954 = .ok (.iconst 1, 1) := by decide +kernel
theorem dL_law_955 : decode code 955 = .ok (.iadd, 1) := by decide +kernel
theorem dL_law_956 : decode code 956 = .ok (.iaload, 1) := by decide +kernel
theorem dL_law_957 : decode code 957 = .ok (.invokevirtual 116, 3) := by decide +kernel
theorem dL_law_960 : decode code 960 = .ok (.aload_n 2, 1) := by decide +kernel
theorem dL_law_961 : decode code 961 = .ok (.aload_n 0, 1) := by decide +kernel
theorem dL_law_962 : decode code 962 = .ok (.iload 4, 2) := by decide +kernel
theorem dL_law_964 : decode code 964 = .ok (.iconst 1, 1) := by decide +kernel
theorem dL_law_965 : decode code 965 = .ok (.iadd, 1) := by decide +kernel
theorem dL_law_966 : decode code 966 = .ok (.iaload, 1) := by decide +kernel
theorem dL_law_967 : decode code 967 = .ok (.invokevirtual 119, 3) := by decide +kernel
theorem dL_law_970 : decode code 970 = .ok (.if_icmp .eq 773, 3) := by decide +kernel
set_option maxHeartbeats 4000000 in
set_option maxRecDepth 100000 in
/-- near -/
theorem law_19 {p : Program} {l : Launch} {e : Env} {s : State} {m : MethodId} {below : List Frame} {meth : Method} {c : Code} {b L : Nat} {xs : Nat → Int32} {D : va_G} {cy : Nat → ClassId} {aC aM : Nat → Nat} {AC AM : Nat → Prop} {o : Nat} (F : LwF p l s m meth c b L xs D cy aC aM AC AM o) {i : Nat} (hi : i + 5 ≤ L) {cells slots : Nat} (hcs : cells + 1 ≤ room_1.cells ∧ slots + 6 ≤ room_1.slots) (hgo : LwGo p l e s m below meth c b D cy aC aM o i (cells + 1) (slots + 6)) {I : Nat → Int32} {Lg : Nat → Int64} {A : Nat → Nat → Int32} {B : Nat → Nat → Int64} {J : Nat → Int32} {E : Nat → Nat → Int32} {f : Nat → Int64} {H : Heap} {locs : List Loc} {ls : Array Slot} (hP : LwP D cy aC aM o I Lg A B J E f H) (hS : va_S (sNew s) s.heap H locs) (hst : LSt I Lg A B J E) (hl : lv_has ls 7 [(0, .ref b), (1, .ref (aC 0)), (2, .ref (aM 0)), (3, .ref o), (4, .int (nI i))]) : WL p l e s m b below meth c H locs cells slots (F0 m 950 ls []) := by
  obtain ⟨S, hC, hM, hW⟩ := hst
  have hx := F.1.1
  have hb := F.1.2.1
  refine lv_aload_n hx hb dL_law_950 rfl (lv_at hl 1 rfl) ?_
  refine law_arg F (k := 1) 0 4 hl rfl rfl (by omega) (by decide) hS dL_law_951 dL_law_952 dL_law_954 dL_law_955 dL_law_956 ?_
  have hk := t_near hC hM hW (xs (i + 1)) (K := fun r r' J1 => r = r' ∧ LSt I Lg A B J1 E) (by intros; exact ⟨rfl, _, by assumption, by assumption, by assumption⟩)
  refine lawCi F (As := [.int (xs (i + 1))]) (rest := []) (n := 1) (c_X9_near F.2.2.2.2.2.1 I Lg A B (xs (i + 1)) _ hk) hP hS mw_3_72 wd_X9_near rfl (by decide +kernel) ⟨rfl, rfl⟩ ⟨Nat.le_of_ble_eq_true rfl, Nat.le_of_ble_eq_true rfl⟩ rfl hl.1 rfl (Nat.le_of_ble_eq_true rfl) dL_law_957 ⟨Nat.le_of_succ_le hcs.1, Nat.le_trans (Nat.le_add_right _ 6) hcs.2⟩ (fun r u H locs h hP hS => ?_)
  obtain ⟨I1, L1, A1, B1⟩ := u
  dsimp only at h hP
  obtain ⟨h, rfl, rfl, rfl, rfl⟩ := h
  try dsimp only at h
  refine lv_aload_n hx hb dL_law_960 rfl (lv_at hl 2 rfl) ?_
  refine law_arg F (k := 1) 0 4 hl rfl rfl (by omega) (by decide) hS dL_law_961 dL_law_962 dL_law_964 dL_law_965 dL_law_966 ?_
  refine lawMi F (As := [.int (xs (i + 1))]) (rest := [.int r]) (n := 1) (c_X10_near F.2.2.2.2.2.2.1 J E (xs (i + 1)) _ h) hP hS mw_5_140 wd_X10_near rfl (by decide +kernel) ⟨rfl, rfl⟩ ⟨Nat.le_of_ble_eq_true rfl, Nat.le_of_ble_eq_true rfl⟩ rfl hl.1 rfl (Nat.le_of_ble_eq_true rfl) dL_law_967 ⟨Nat.le_of_succ_le hcs.1, Nat.le_trans (Nat.le_add_right _ 6) hcs.2⟩ (fun r' u H locs h hP hS => ?_)
  obtain ⟨J1, E1⟩ := u
  dsimp only at h hP
  obtain ⟨⟨hrr, hst⟩, rfl⟩ := h
  refine lv_icmp_eq (tgt := 1743) hx hb dL_law_970 (by decide) (fun _ => ?_) (fun hc => absurd hrr hc)
  exact W.widen (k := cells + 1) (n := slots + 6) (Nat.le_succ _) (Nat.le_add_right _ _) (hgo _ _ _ _ _ _ _ _ _ _ hP hS hst hl)
theorem dL_law_975 : decode code 975 = .ok (.aload_n 1, 1) := by decide +kernel
theorem dL_law_976 : decode code 976 = .ok (.aload_n 0, 1) := by decide +kernel
theorem dL_law_977 : decode code 977 = .ok (.iload 4, 2) := by decide +kernel
theorem dL_law_979 : decode code 979 = .ok (.iconst 1, 1) := by decide +kernel
theorem dL_law_980 : decode code 980 = .ok (.iadd, 1) := by decide +kernel
theorem dL_law_981 : decode code 981 = .ok (.iaload, 1) := by decide +kernel
theorem dL_law_982 : decode code 982 = .ok (.invokevirtual 120, 3) := by decide +kernel
theorem dL_law_985 : decode code 985 = .ok (.aload_n 2, 1) := by decide +kernel
theorem dL_law_986 : decode code 986 = .ok (.aload_n 0, 1) := by decide +kernel
theorem dL_law_987 : decode code 987 = .ok (.iload 4, 2) := by decide +kernel
theorem dL_law_989 : decode code 989 = .ok (.iconst 1, 1) := by decide +kernel
theorem dL_law_990 : decode code 990 = .ok (.iadd, 1) := by decide +kernel
theorem dL_law_991 : decode code 991 = .ok (.iaload, 1) := by decide +kernel
theorem dL_law_992 : decode code 992 = .ok (.invokevirtual 123, 3) := by decide +kernel
theorem dL_law_995 : decode code 995 = .ok (.if_icmp .eq 748, 3) := by decide +kernel
set_option maxHeartbeats 4000000 in
set_option maxRecDepth 100000 in
/-- shown -/
theorem law_20 {p : Program} {l : Launch} {e : Env} {s : State} {m : MethodId} {below : List Frame} {meth : Method} {c : Code} {b L : Nat} {xs : Nat → Int32} {D : va_G} {cy : Nat → ClassId} {aC aM : Nat → Nat} {AC AM : Nat → Prop} {o : Nat} (F : LwF p l s m meth c b L xs D cy aC aM AC AM o) {i : Nat} (hi : i + 5 ≤ L) {cells slots : Nat} (hcs : cells + 1 ≤ room_1.cells ∧ slots + 6 ≤ room_1.slots) (hgo : LwGo p l e s m below meth c b D cy aC aM o i (cells + 1) (slots + 6)) {I : Nat → Int32} {Lg : Nat → Int64} {A : Nat → Nat → Int32} {B : Nat → Nat → Int64} {J : Nat → Int32} {E : Nat → Nat → Int32} {f : Nat → Int64} {H : Heap} {locs : List Loc} {ls : Array Slot} (hP : LwP D cy aC aM o I Lg A B J E f H) (hS : va_S (sNew s) s.heap H locs) (hst : LSt I Lg A B J E) (hl : lv_has ls 7 [(0, .ref b), (1, .ref (aC 0)), (2, .ref (aM 0)), (3, .ref o), (4, .int (nI i))]) : WL p l e s m b below meth c H locs cells slots (F0 m 975 ls []) := by
  obtain ⟨S, hC, hM, hW⟩ := hst
  have hx := F.1.1
  have hb := F.1.2.1
  refine lv_aload_n hx hb dL_law_975 rfl (lv_at hl 1 rfl) ?_
  refine law_arg F (k := 1) 0 4 hl rfl rfl (by omega) (by decide) hS dL_law_976 dL_law_977 dL_law_979 dL_law_980 dL_law_981 ?_
  have hk := t_shown hC hM hW (xs (i + 1)) (K := fun r r' J1 => r = r' ∧ LSt I Lg A B J1 E) (by intros; exact ⟨rfl, _, by assumption, by assumption, by assumption⟩)
  refine lawCi F (As := [.int (xs (i + 1))]) (rest := []) (n := 1) (c_X9_shown F.2.2.2.2.2.1 I Lg A B (xs (i + 1)) _ hk) hP hS mw_3_77 wd_X9_shown rfl (by decide +kernel) ⟨rfl, rfl⟩ ⟨Nat.le_of_ble_eq_true rfl, Nat.le_of_ble_eq_true rfl⟩ rfl hl.1 rfl (Nat.le_of_ble_eq_true rfl) dL_law_982 ⟨Nat.le_of_succ_le hcs.1, Nat.le_trans (Nat.le_add_right _ 6) hcs.2⟩ (fun r u H locs h hP hS => ?_)
  obtain ⟨I1, L1, A1, B1⟩ := u
  dsimp only at h hP
  obtain ⟨h, rfl, rfl, rfl, rfl⟩ := h
  try dsimp only at h
  refine lv_aload_n hx hb dL_law_985 rfl (lv_at hl 2 rfl) ?_
  refine law_arg F (k := 1) 0 4 hl rfl rfl (by omega) (by decide) hS dL_law_986 dL_law_987 dL_law_989 dL_law_990 dL_law_991 ?_
  refine lawMi F (As := [.int (xs (i + 1))]) (rest := [.int r]) (n := 1) (c_X10_shown F.2.2.2.2.2.2.1 J E (xs (i + 1)) _ h) hP hS mw_5_144 wd_X10_shown rfl (by decide +kernel) ⟨rfl, rfl⟩ ⟨Nat.le_of_ble_eq_true rfl, Nat.le_of_ble_eq_true rfl⟩ rfl hl.1 rfl (Nat.le_of_ble_eq_true rfl) dL_law_992 ⟨Nat.le_of_succ_le hcs.1, Nat.le_trans (Nat.le_add_right _ 6) hcs.2⟩ (fun r' u H locs h hP hS => ?_)
  obtain ⟨J1, E1⟩ := u
  dsimp only at h hP
  obtain ⟨⟨hrr, hst⟩, rfl⟩ := h
  refine lv_icmp_eq (tgt := 1743) hx hb dL_law_995 (by decide) (fun _ => ?_) (fun hc => absurd hrr hc)
  exact W.widen (k := cells + 1) (n := slots + 6) (Nat.le_succ _) (Nat.le_add_right _ _) (hgo _ _ _ _ _ _ _ _ _ _ hP hS hst hl)
