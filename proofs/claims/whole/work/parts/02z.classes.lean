abbrev vwCl : List vw_C := [(RX0, TX0, 19), (RX2, TX2, 8), (RX3, TX3, 7), (RX4, TX4, 2), (RX5, TX5, 3), (RX6, TX6, 2), (RX7, TX7, 4), (RX8, TX8, 11), (RX9, TX9, 28)]
