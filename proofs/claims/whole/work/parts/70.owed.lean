def xr_Inv (_ _ : xm_M) : Prop := True
theorem xr_event {M N : xm_M} (h : xr_Inv M N) {c1 : Nat} (hc1 : c1 < 65536) (a2 : Int32) (a3 : Int32) : ∃ n1 n2 r M' N', f_X6_event n1 M (nI c1) a2 a3 = some (r, M') ∧ f_X7_event n2 N (nI c1) a2 a3 = some (r, N') ∧ xr_Inv M' N' := sorry
theorem xr_forget {M N : xm_M} (h : xr_Inv M N) (a1 : Int32) : ∃ n1 n2 r M' N', f_X6_forget n1 M a1 = some (r, M') ∧ f_X7_forget n2 N a1 = some (r, N') ∧ xr_Inv M' N' := sorry
theorem xr_setLateness {M N : xm_M} (h : xr_Inv M N) (a1 : Int32) : ∃ n1 n2 r M' N', f_X6_setLateness n1 M a1 = some (r, M') ∧ f_X7_setLateness n2 N a1 = some (r, N') ∧ xr_Inv M' N' := sorry
theorem xr_addPattern {M N : xm_M} (h : xr_Inv M N) : ∃ n1 n2 r M' N', f_X6_addPattern n1 M = some (r, M') ∧ f_X7_addPattern n2 N = some (r, N') ∧ xr_Inv M' N' := sorry
theorem xr_dropPattern {M N : xm_M} (h : xr_Inv M N) (a1 : Int32) : ∃ n1 n2 r M' N', f_X6_dropPattern n1 M a1 = some (r, M') ∧ f_X7_dropPattern n2 N a1 = some (r, N') ∧ xr_Inv M' N' := sorry
theorem xr_setWindow {M N : xm_M} (h : xr_Inv M N) (a1 : Int32) (a2 : Int32) : ∃ n1 n2 r M' N', f_X6_setWindow n1 M a1 a2 = some (r, M') ∧ f_X7_setWindow n2 N a1 a2 = some (r, N') ∧ xr_Inv M' N' := sorry
theorem xr_type {M N : xm_M} (h : xr_Inv M N) {c1 : Nat} (hc1 : c1 < 65536) : ∃ n1 n2 r M' N', f_X6_type n1 M (nI c1) = some (r, M') ∧ f_X7_type n2 N (nI c1) = some (r, N') ∧ xr_Inv M' N' := sorry
theorem xr_clearText {M N : xm_M} (h : xr_Inv M N) : ∃ n1 n2 r M' N', f_X6_clearText n1 M = some (r, M') ∧ f_X7_clearText n2 N = some (r, N') ∧ xr_Inv M' N' := sorry
theorem xr_undo {M N : xm_M} (h : xr_Inv M N) : ∃ n1 n2 r M' N', f_X6_undo n1 M = some (r, M') ∧ f_X7_undo n2 N = some (r, N') ∧ xr_Inv M' N' := sorry
theorem xr_keep {M N : xm_M} (h : xr_Inv M N) : ∃ n1 n2 r M' N', f_X6_keep n1 M = some (r, M') ∧ f_X7_keep n2 N = some (r, N') ∧ xr_Inv M' N' := sorry
theorem xr_restore {M N : xm_M} (h : xr_Inv M N) : ∃ n1 n2 r M' N', f_X6_restore n1 M = some (r, M') ∧ f_X7_restore n2 N = some (r, N') ∧ xr_Inv M' N' := sorry
theorem xr_eventOf {M N : xm_M} (h : xr_Inv M N) (a1 : Int32) (a2 : Int32) : ∃ n1 n2 r M' N', f_X6_eventOf n1 M a1 a2 = some (r, M') ∧ f_X7_eventOf n2 N a1 a2 = some (r, N') ∧ xr_Inv M' N' := sorry
theorem xr_pattern {M N : xm_M} (h : xr_Inv M N) (a1 : Int32) (a2 : Int32) : ∃ n1 n2 r M' N', f_X6_pattern n1 M a1 a2 = some (r, M') ∧ f_X7_pattern n2 N a1 a2 = some (r, N') ∧ xr_Inv M' N' := sorry
theorem xr_step {M N : xm_M} (h : xr_Inv M N) (a1 : Int32) (a2 : Int32) (a3 : Int32) : ∃ n1 n2 r M' N', f_X6_step n1 M a1 a2 a3 = some (r, M') ∧ f_X7_step n2 N a1 a2 a3 = some (r, N') ∧ xr_Inv M' N' := sorry
theorem xr_match {M N : xm_M} (h : xr_Inv M N) (a1 : Int32) (a2 : Int32) (a3 : Int32) : ∃ n1 n2 r M' N', f_X6_match n1 M a1 a2 a3 = some (r, M') ∧ f_X7_match n2 N a1 a2 a3 = some (r, N') ∧ xr_Inv M' N' := sorry
theorem xr_ifEvent {M N : xm_M} (h : xr_Inv M N) {c1 : Nat} (hc1 : c1 < 65536) (a2 : Int32) (a3 : Int32) : ∃ n1 n2 r M' N', f_X6_ifEvent n1 M (nI c1) a2 a3 = some (r, M') ∧ f_X7_ifEvent n2 N (nI c1) a2 a3 = some (r, N') ∧ xr_Inv M' N' := sorry
theorem xr_count {M N : xm_M} (h : xr_Inv M N) (a1 : Int32) : ∃ n1 n2 r M' N', f_X6_count n1 M a1 = some (r, M') ∧ f_X7_count n2 N a1 = some (r, N') ∧ xr_Inv M' N' := sorry
theorem xr_start : xr_Inv xm_0 xm_1 := sorry
