section ZG
variable {w : z_W}
def g_Arrays_fill_20 : z_T := (zi_vret)
theorem gS_Arrays_fill_20 (hw : z_Wd w) : z_S w zY_Arrays_fill 20 g_Arrays_fill_20 := (zs_vret (by decide +kernel) rfl)
def g_Arrays_fill_5 : z_T := (zq 6 (zi_iload 2 6) (zq 7 (zi_iload 3 7) (zb 10 20 (zi_icmp_ge 20 10) (zq 11 (zi_aload 0 11) (zq 12 (zi_iload 2 12) (zq 13 (zi_iload 1 13) (zq 14 (zi_iast 14) (zq 17 (zi_iinc 2 1 17) (zi_goto 5)))))) g_Arrays_fill_20)))
theorem gS_Arrays_fill_5 (hw : z_Wd w) : z_S w zY_Arrays_fill 5 g_Arrays_fill_5 := (zq_S (zs_iload_n (k9 := 2) (by decide +kernel) rfl) (zq_S (zs_iload_n (k9 := 3) (by decide +kernel) rfl) (zb_S (zs_icmp_ge (off := 13) (by decide +kernel) (by decide)) (zq_S (zs_aload_n (k9 := 0) (by decide +kernel) rfl) (zq_S (zs_iload_n (k9 := 2) (by decide +kernel) rfl) (zq_S (zs_iload_n (k9 := 1) (by decide +kernel) rfl) (zq_S (zs_iast hw.1 (by decide +kernel)) (zq_S (zs_iinc (n := 1) (by decide +kernel) (by decide) (by decide)) (zs_goto (off := -12) (by decide +kernel) (by decide))))))) (gS_Arrays_fill_20 hw))))
def g_Arrays_fill_0 : z_T := (zq 1 (zi_iconst 0 1) (zq 2 (zi_istore 2 2) (zq 3 (zi_aload 0 3) (zq 4 (zi_alen 4) (zi_istore 3 5)))))
theorem gS_Arrays_fill_0 (hw : z_Wd w) : z_S w zY_Arrays_fill 0 g_Arrays_fill_0 := (zq_S (zs_iconst (n := 0) (by decide +kernel) (by decide)) (zq_S (zs_istore_n (k9 := 2) (by decide +kernel) rfl (by decide)) (zq_S (zs_aload_n (k9 := 0) (by decide +kernel) rfl) (zq_S (zs_alen hw.1 (by decide +kernel)) (zs_istore_n (k9 := 3) (by decide +kernel) rfl (by decide))))))
end ZG
