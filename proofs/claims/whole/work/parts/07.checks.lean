def xT (ci : Nat) : u_T := ((vwCl.getD ci (RX0, TX0, 3)).2.1)
def xfcond (own : String) (idx : Nat) (nest : Bool) (ci k : Nat) : Cond := if nest then .fieldLinkNest own idx (xT ci k).1 (xT ci k).2.1 (xT ci k).2.2.1 "BeanVoices" else .fieldLink own idx (xT ci k).1 (xT ci k).2.1 (xT ci k).2.2.1
def xgood (w : Cond) (q : Nat) : Bool := decide (lw_tbl[q]? = some w) && goodWord w
def xthere (w : Cond) (q : Nat) : Bool := decide (lw_tbl[q]? = some w)
theorem xFT_ok : (xFT.all fun e => (if e.2.1 then xthere (xfcond (xR (e.1 / 1000)) (e.1 % 1000) e.2.1 e.2.2.1 e.2.2.2.1) e.2.2.2.2 else xgood (xfcond (xR (e.1 / 1000)) (e.1 % 1000) e.2.1 e.2.2.1 e.2.2.2.1) e.2.2.2.2) && decide (e.2.2.1 < 11) && decide (e.2.2.2.1 < (xFy.getD e.2.2.1 []).length)) = true := by decide +kernel
theorem xKI_ok : (xKI.all fun e => xgood (.constant (xR (e.1 / 1000)) (e.1 % 1000) e.2.1) e.2.2) = true := by decide +kernel
theorem xKL_ok : (xKL.all fun e => xgood (.constantLong (xR (e.1 / 1000)) (e.1 % 1000) e.2.1) e.2.2) = true := by decide +kernel
theorem xCT_ok : (xCT.all fun e => xgood (.classLink (xR (e.1 / 1000)) (e.1 % 1000) (vwCl.getD e.2.1 (RX0, TX0, 3)).1) e.2.2 && decide (e.2.1 < 11)) = true := by decide +kernel
