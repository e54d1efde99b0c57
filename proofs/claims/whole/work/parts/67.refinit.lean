/-- the reference as it begins -/
def M0 : MS := (fun k => if k = 29 then -1 else 0, 0, fun a => if a = 1 then upd (fun _ => 0) 0 500 else fun _ => 0, fun _ _ => 0, fun _ => 0)
set_option maxRecDepth 100000 in
set_option maxHeartbeats 4000000 in
theorem cn_X11_init {K : KX} {n : Nat} {h : MH} {m : Nat} (hn : n = m + 1) (x : h m = some (cO 11 [.null, .null, .null, .null, .null, .null, .null, .int 0, .null, .int 0, .int 0, .int 0, .null, .int 0, .int 0, .int 0, .null, .null, .null, .null, .int 0, .null, .int 0, .int 0, .int 0, .int 0, .int 0, .int 0, .int 0, .int 0, .long 0, .null])) : Con K mX11_init [.ref m] 15 3300 n h (RetP none (n + 15) (fun h9 => Md h m M0 h9)) := by
  subst hn
  refine Con.of (by decide +kernel) (Nat.le_of_ble_eq_true rfl) ?_
  refine mj_aload_n 0 dX11_init_0 rfl ?_
  refine mj_objInit dX11_init_1 mlX11_1 im_obj cd_obj (Nat.le_of_ble_eq_true rfl) (Nat.le_of_ble_eq_true rfl) ?_
  refine mj_aload_n 0 dX11_init_4 rfl ?_
  refine mj_sipush (v := (568)) dX11_init_5 rfl ?_
  refine mj_newaI dX11_init_8 ac_int (show (568 : Int32).toInt = ((568 : Nat) : Int) from rfl) (by omega) (Nat.le_of_ble_eq_true rfl) (Nat.le_of_ble_eq_true rfl) ?_
  refine mj_putG dX11_init_10 ffX11_7 (by repeat (first | assumption | exact mup_s _ _ _ | rw [mup_n _ _ (by omega)])) rfl rfl (by intro r h9; cases h9; rfl) rfl rfl (Nat.le_of_ble_eq_true rfl) rfl ?_
  refine mj_aload_n 0 dX11_init_13 rfl ?_
  refine mj_sipush (v := (568)) dX11_init_14 rfl ?_
  refine mj_newaI dX11_init_17 ac_int (show (568 : Int32).toInt = ((568 : Nat) : Int) from rfl) (by omega) (Nat.le_of_ble_eq_true rfl) (Nat.le_of_ble_eq_true rfl) ?_
  refine mj_putG dX11_init_19 ffX11_13 (by repeat (first | assumption | exact mup_s _ _ _ | rw [mup_n _ _ (by omega)])) rfl rfl (by intro r h9; cases h9; rfl) rfl rfl (Nat.le_of_ble_eq_true rfl) rfl ?_
  refine mj_aload_n 0 dX11_init_22 rfl ?_
  refine mj_sipush (v := (1136)) dX11_init_23 rfl ?_
  refine mj_newaI dX11_init_26 ac_int (show (1136 : Int32).toInt = ((1136 : Nat) : Int) from rfl) (by omega) (Nat.le_of_ble_eq_true rfl) (Nat.le_of_ble_eq_true rfl) ?_
  refine mj_putG dX11_init_28 ffX11_16 (by repeat (first | assumption | exact mup_s _ _ _ | rw [mup_n _ _ (by omega)])) rfl rfl (by intro r h9; cases h9; rfl) rfl rfl (Nat.le_of_ble_eq_true rfl) rfl ?_
  refine mj_aload_n 0 dX11_init_31 rfl ?_
  refine mj_bipush (v := (28)) dX11_init_32 rfl ?_
  refine mj_newaJ dX11_init_34 ac_long (show (28 : Int32).toInt = ((28 : Nat) : Int) from rfl) (by omega) (Nat.le_of_ble_eq_true rfl) (Nat.le_of_ble_eq_true rfl) ?_
  refine mj_putG dX11_init_36 ffX11_19 (by repeat (first | assumption | exact mup_s _ _ _ | rw [mup_n _ _ (by omega)])) rfl rfl (by intro r h9; cases h9; rfl) rfl rfl (Nat.le_of_ble_eq_true rfl) rfl ?_
  refine mj_aload_n 0 dX11_init_39 rfl ?_
  refine mj_bipush (v := (28)) dX11_init_40 rfl ?_
  refine mj_newaJ dX11_init_42 ac_long (show (28 : Int32).toInt = ((28 : Nat) : Int) from rfl) (by omega) (Nat.le_of_ble_eq_true rfl) (Nat.le_of_ble_eq_true rfl) ?_
  refine mj_putG dX11_init_44 ffX11_23 (by repeat (first | assumption | exact mup_s _ _ _ | rw [mup_n _ _ (by omega)])) rfl rfl (by intro r h9; cases h9; rfl) rfl rfl (Nat.le_of_ble_eq_true rfl) rfl ?_
  refine mj_aload_n 0 dX11_init_47 rfl ?_
  refine mj_bipush (v := (56)) dX11_init_48 rfl ?_
  refine mj_newaJ dX11_init_50 ac_long (show (56 : Int32).toInt = ((56 : Nat) : Int) from rfl) (by omega) (Nat.le_of_ble_eq_true rfl) (Nat.le_of_ble_eq_true rfl) ?_
  refine mj_putG dX11_init_52 ffX11_26 (by repeat (first | assumption | exact mup_s _ _ _ | rw [mup_n _ _ (by omega)])) rfl rfl (by intro r h9; cases h9; rfl) rfl rfl (Nat.le_of_ble_eq_true rfl) rfl ?_
  refine mj_aload_n 0 dX11_init_55 rfl ?_
  refine mj_iconst (v := 2) dX11_init_56 rfl ?_
  refine mj_newaZ dX11_init_57 ac_boolean (show (2 : Int32).toInt = ((2 : Nat) : Int) from rfl) (by omega) (Nat.le_of_ble_eq_true rfl) (Nat.le_of_ble_eq_true rfl) ?_
  refine mj_putG dX11_init_59 ffX11_29 (by repeat (first | assumption | exact mup_s _ _ _ | rw [mup_n _ _ (by omega)])) rfl rfl (by intro r h9; cases h9; rfl) rfl rfl (Nat.le_of_ble_eq_true rfl) rfl ?_
  refine mj_aload_n 0 dX11_init_62 rfl ?_
  refine mj_bipush (v := (44)) dX11_init_63 rfl ?_
  refine mj_newaI dX11_init_65 ac_int (show (44 : Int32).toInt = ((44 : Nat) : Int) from rfl) (by omega) (Nat.le_of_ble_eq_true rfl) (Nat.le_of_ble_eq_true rfl) ?_
  refine mj_putG dX11_init_67 ffX11_33 (by repeat (first | assumption | exact mup_s _ _ _ | rw [mup_n _ _ (by omega)])) rfl rfl (by intro r h9; cases h9; rfl) rfl rfl (Nat.le_of_ble_eq_true rfl) rfl ?_
  refine mj_aload_n 0 dX11_init_70 rfl ?_
  refine mj_bipush (v := (46)) dX11_init_71 rfl ?_
  refine mj_newaI dX11_init_73 ac_int (show (46 : Int32).toInt = ((46 : Nat) : Int) from rfl) (by omega) (Nat.le_of_ble_eq_true rfl) (Nat.le_of_ble_eq_true rfl) ?_
  refine mj_putG dX11_init_75 ffX11_36 (by repeat (first | assumption | exact mup_s _ _ _ | rw [mup_n _ _ (by omega)])) rfl rfl (by intro r h9; cases h9; rfl) rfl rfl (Nat.le_of_ble_eq_true rfl) rfl ?_
  refine mj_aload_n 0 dX11_init_78 rfl ?_
  refine mj_sipush (v := (160)) dX11_init_79 rfl ?_
  refine mj_newaI dX11_init_82 ac_int (show (160 : Int32).toInt = ((160 : Nat) : Int) from rfl) (by omega) (Nat.le_of_ble_eq_true rfl) (Nat.le_of_ble_eq_true rfl) ?_
  refine mj_putG dX11_init_84 ffX11_39 (by repeat (first | assumption | exact mup_s _ _ _ | rw [mup_n _ _ (by omega)])) rfl rfl (by intro r h9; cases h9; rfl) rfl rfl (Nat.le_of_ble_eq_true rfl) rfl ?_
  refine mj_aload_n 0 dX11_init_87 rfl ?_
  refine mj_bipush (v := (20)) dX11_init_88 rfl ?_
  refine mj_newaI dX11_init_90 ac_int (show (20 : Int32).toInt = ((20 : Nat) : Int) from rfl) (by omega) (Nat.le_of_ble_eq_true rfl) (Nat.le_of_ble_eq_true rfl) ?_
  refine mj_putG dX11_init_92 ffX11_42 (by repeat (first | assumption | exact mup_s _ _ _ | rw [mup_n _ _ (by omega)])) rfl rfl (by intro r h9; cases h9; rfl) rfl rfl (Nat.le_of_ble_eq_true rfl) rfl ?_
  refine mj_aload_n 0 dX11_init_95 rfl ?_
  refine mj_bipush (v := (20)) dX11_init_96 rfl ?_
  refine mj_newaI dX11_init_98 ac_int (show (20 : Int32).toInt = ((20 : Nat) : Int) from rfl) (by omega) (Nat.le_of_ble_eq_true rfl) (Nat.le_of_ble_eq_true rfl) ?_
  refine mj_putG dX11_init_100 ffX11_45 (by repeat (first | assumption | exact mup_s _ _ _ | rw [mup_n _ _ (by omega)])) rfl rfl (by intro r h9; cases h9; rfl) rfl rfl (Nat.le_of_ble_eq_true rfl) rfl ?_
  refine mj_aload_n 0 dX11_init_103 rfl ?_
  refine mj_bipush (v := (20)) dX11_init_104 rfl ?_
  refine mj_newaI dX11_init_106 ac_int (show (20 : Int32).toInt = ((20 : Nat) : Int) from rfl) (by omega) (Nat.le_of_ble_eq_true rfl) (Nat.le_of_ble_eq_true rfl) ?_
  refine mj_putG dX11_init_108 ffX11_48 (by repeat (first | assumption | exact mup_s _ _ _ | rw [mup_n _ _ (by omega)])) rfl rfl (by intro r h9; cases h9; rfl) rfl rfl (Nat.le_of_ble_eq_true rfl) rfl ?_
  refine mj_aload_n 0 dX11_init_111 rfl ?_
  refine mj_sipush (v := (600)) dX11_init_112 rfl ?_
  refine mj_newaI dX11_init_115 ac_int (show (600 : Int32).toInt = ((600 : Nat) : Int) from rfl) (by omega) (Nat.le_of_ble_eq_true rfl) (Nat.le_of_ble_eq_true rfl) ?_
  refine mj_putG dX11_init_117 ffX11_51 (by repeat (first | assumption | exact mup_s _ _ _ | rw [mup_n _ _ (by omega)])) rfl rfl (by intro r h9; cases h9; rfl) rfl rfl (Nat.le_of_ble_eq_true rfl) rfl ?_
  refine mj_aload_n 0 dX11_init_120 rfl ?_
  refine mj_iconst (v := (-1)) dX11_init_121 rfl ?_
  refine mj_putf dX11_init_122 fgX11_54 (by repeat (first | assumption | exact mup_s _ _ _ | rw [mup_n _ _ (by omega)])) rfl rfl rfl (Nat.le_of_ble_eq_true rfl) rfl ?_
  refine mj_aload_n 0 dX11_init_125 rfl ?_
  refine mj_iconst (v := 4) dX11_init_126 rfl ?_
  refine mj_newaI dX11_init_127 ac_int (show (4 : Int32).toInt = ((4 : Nat) : Int) from rfl) (by omega) (Nat.le_of_ble_eq_true rfl) (Nat.le_of_ble_eq_true rfl) ?_
  refine mj_putG dX11_init_129 ffX11_58 (by repeat (first | assumption | exact mup_s _ _ _ | rw [mup_n _ _ (by omega)])) rfl rfl (by intro r h9; cases h9; rfl) rfl rfl (Nat.le_of_ble_eq_true rfl) rfl ?_
  refine mj_aload_n 0 dX11_init_132 rfl ?_
  refine mj_getf dX11_init_133 fgX11_7 (by repeat (first | assumption | exact mup_s _ _ _ | rw [mup_n _ _ (by omega)])) rfl ?_
  refine mj_iconst (v := 0) dX11_init_136 rfl ?_
  refine mj_sipush (v := (500)) dX11_init_137 rfl ?_
  refine mj_iast (by repeat (first | assumption | exact mup_s _ _ _ | rw [mup_n _ _ (by omega)])) (show (0 : Int32).toInt = ((0 : Nat) : Int) from rfl) (by first | assumption | decide | omega) dX11_init_140 ?_
  exact mj_vret dX11_init_141 rfl (Nat.le_of_ble_eq_true rfl) (Nat.le_of_ble_eq_true rfl) ⟨rfl, rfl, ⟨(by repeat (first | assumption | exact mup_s _ _ _ | rw [mup_n _ _ (by omega)])), (by repeat (first | assumption | exact mup_s _ _ _ | rw [mup_n _ _ (by omega)])), (by repeat (first | assumption | exact mup_s _ _ _ | rw [mup_n _ _ (by omega)])), (by repeat (first | assumption | exact mup_s _ _ _ | rw [mup_n _ _ (by omega)])), (by repeat (first | assumption | exact mup_s _ _ _ | rw [mup_n _ _ (by omega)])), (by repeat (first | assumption | exact mup_s _ _ _ | rw [mup_n _ _ (by omega)])), (by repeat (first | assumption | exact mup_s _ _ _ | rw [mup_n _ _ (by omega)])), (by repeat (first | assumption | exact mup_s _ _ _ | rw [mup_n _ _ (by omega)])), (by repeat (first | assumption | exact mup_s _ _ _ | rw [mup_n _ _ (by omega)])), (by repeat (first | assumption | exact mup_s _ _ _ | rw [mup_n _ _ (by omega)])), (by repeat (first | assumption | exact mup_s _ _ _ | rw [mup_n _ _ (by omega)])), (by repeat (first | assumption | exact mup_s _ _ _ | rw [mup_n _ _ (by omega)])), (by repeat (first | assumption | exact mup_s _ _ _ | rw [mup_n _ _ (by omega)])), (by repeat (first | assumption | exact mup_s _ _ _ | rw [mup_n _ _ (by omega)])), (by repeat (first | assumption | exact mup_s _ _ _ | rw [mup_n _ _ (by omega)])), (by repeat (first | assumption | exact mup_s _ _ _ | rw [mup_n _ _ (by omega)])), (by repeat (first | exact Off.rf | assumption | refine Off.m ?_ _ (by omega) (by omega)))⟩⟩
